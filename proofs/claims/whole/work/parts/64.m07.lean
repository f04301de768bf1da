def fX12_run_b230 (w : qcW) (k139 : qTI × qTL × qTD × qTR × Int32 × Int32 → qcO Int32) (I : qTI) (L : qTL) (D : qTD) (R : qTR) (x1 : Int32) (x2 : Int32) (s0 : Int32) : qcO Int32 :=
  (if s0 = 0 then (qc_bd (fX12_takesBack w I L D R) fun r2 I2 L2 D2 R2 => some (((-10 : Int32) - ((qc_u (qc_u I2 291 78 (I2 291 69)) 291 81 (0 : Int32)) 291 71)), (qc_u (qc_u I2 291 78 (I2 291 69)) 291 81 (0 : Int32)), L2, D2, R2)) else (k139 ((qc_u I 291 71 ((I 291 71) + (1 : Int32))), L, D, R, x1, x2)))
set_option maxRecDepth 100000 in
set_option maxHeartbeats 4000000 in
theorem tX12_run_b230 {w : qcW} {I : qTI} {L : qTL} {D : qTD} {R : qTR} {k139 : qTI × qTL × qTD × qTR × Int32 × Int32 → qcO Int32} {x1 : Int32} {x2 : Int32} {s0 : Int32} {r : Int32} {I' : qTI} {L' : qTL} {D' : qTD} {R' : qTR} (hn : qcNF ≤ w.1) (hR : qc_FR R) (hk139 : ∀ {I : qTI} {L : qTL} {D : qTD} {R : qTR} {x1 : Int32} {x2 : Int32} {r : Int32} {I' : qTI} {L' : qTL} {D' : qTD} {R' : qTR}, qc_FR R → k139 (I, L, D, R, x1, x2) = some (r, I', L', D', R') → qc_fm qcSM (I, L, D, R) (I', L', D', R') ∧ qc_X (qc_rm (7) 0 0) qmX12_run (qc_QM 0 0 (qc_eq (some (.int r)) w (I', L', D', R'))) 0 0 w (139, [(0, .ref 291), (1, .int x1), (2, .int x2)], [], I, L, D, R)) (h : fX12_run_b230 w k139 I L D R x1 x2 s0 = some (r, I', L', D', R')) : qc_fm qcSM (I, L, D, R) (I', L', D', R') ∧ qc_X (qc_rm (7) 0 0) qmX12_run (qc_QM 0 0 (qc_eq (some (.int r)) w (I', L', D', R'))) 0 0 w (230, [(0, .ref 291), (1, .int x1), (2, .int x2)], [.int s0], I, L, D, R) := by
  unfold fX12_run_b230 at h
  refine And.imp_right (fun hx => qc_istore_n (lv' := [(3, _), (0, _), (1, _), (2, _)]) (qc_at qkX12_run 138 rfl) rfl rfl <| qc_iload_n (qc_at qkX12_run 139 rfl) rfl <| hx) ?_
  refine qc_andN (qc_if_ne (qc_at qkX12_run 140 rfl)) (fun u1 => ?_) (fun u1 => ?_)
  · replace h := qc_jn u1 h
    refine And.imp_right (fun hx => qc_aload_n (qc_at qkX12_run 155 rfl) rfl <| qc_dup (qc_at qkX12_run 156 rfl) rfl <| qc_gI (qc_at qkX12_run 157 rfl) hn rfl <| qc_iconst (qc_at qkX12_run 158 rfl) <| qc_iadd (qc_at qkX12_run 159 rfl) <| hx) (qd_pI (qc_at qkX12_run 160 rfl) hn rfl rfl ?_)
    exact And.imp_right (fun hx => qc_goto (qc_at qkX12_run 161 rfl) <| qc_sub [1, 2, 3] rfl hx) (hk139 hR h)
  · replace h := qc_jp u1 h
    refine And.imp_right (fun hx => qc_aload_n (qc_at qkX12_run 141 rfl) rfl <| hx) ?_
    obtain ⟨r2, I2, L2, D2, R2, e2, h⟩ := qc_bd_of h
    have c2 := (tX12_takesBack hn hR e2)
    refine qd_cVn (ci := 10) (a0 := 291) (qc_at qkX12_run 142 rfl) ql_12_733 qfX12_takesBack (qc_kf hn rfl) rfl c2 rfl rfl (Nat.le_of_ble_eq_true rfl) (qc_rml (by decide) (by decide)) ⟨Nat.zero_le _, Nat.zero_le _⟩ ?_
    refine And.imp_right (fun hx => qc_aload_n (qc_at qkX12_run 143 rfl) rfl <| qc_aload_n (qc_at qkX12_run 144 rfl) rfl <| qc_gI (qc_at qkX12_run 145 rfl) hn rfl <| hx) (qd_pI (qc_at qkX12_run 146 rfl) hn rfl rfl ?_)
    refine And.imp_right (fun hx => qc_aload_n (qc_at qkX12_run 147 rfl) rfl <| qc_iconst (qc_at qkX12_run 148 rfl) <| hx) (qd_pI (qc_at qkX12_run 149 rfl) hn rfl rfl ?_)
    obtain ⟨rfl, rfl, rfl, rfl, rfl⟩ := qc_some5 h
    exact ⟨qc_fm.rf _, qc_bipush (qc_at qkX12_run 150 rfl) <| qc_aload_n (qc_at qkX12_run 151 rfl) rfl <| qc_gI (qc_at qkX12_run 152 rfl) hn rfl <| qc_isub (qc_at qkX12_run 153 rfl) <| qc_iret (qc_at qkX12_run 154 rfl) rfl (Nat.le_refl _) (Nat.le_refl _) (qc_eq.rf _ _ _)⟩
def fX12_run_b225 (w : qcW) (k139 : qTI × qTL × qTD × qTR × Int32 × Int32 → qcO Int32) (I : qTI) (L : qTL) (D : qTD) (R : qTR) (x1 : Int32) (x2 : Int32) : qcO Int32 :=
  (fX12_run_b230 w k139 I L D R x1 x2 (1 : Int32))
set_option maxRecDepth 100000 in
set_option maxHeartbeats 4000000 in
theorem tX12_run_b225 {w : qcW} {I : qTI} {L : qTL} {D : qTD} {R : qTR} {k139 : qTI × qTL × qTD × qTR × Int32 × Int32 → qcO Int32} {x1 : Int32} {x2 : Int32} {r : Int32} {I' : qTI} {L' : qTL} {D' : qTD} {R' : qTR} (hn : qcNF ≤ w.1) (hR : qc_FR R) (hk139 : ∀ {I : qTI} {L : qTL} {D : qTD} {R : qTR} {x1 : Int32} {x2 : Int32} {r : Int32} {I' : qTI} {L' : qTL} {D' : qTD} {R' : qTR}, qc_FR R → k139 (I, L, D, R, x1, x2) = some (r, I', L', D', R') → qc_fm qcSM (I, L, D, R) (I', L', D', R') ∧ qc_X (qc_rm (7) 0 0) qmX12_run (qc_QM 0 0 (qc_eq (some (.int r)) w (I', L', D', R'))) 0 0 w (139, [(0, .ref 291), (1, .int x1), (2, .int x2)], [], I, L, D, R)) (h : fX12_run_b225 w k139 I L D R x1 x2 = some (r, I', L', D', R')) : qc_fm qcSM (I, L, D, R) (I', L', D', R') ∧ qc_X (qc_rm (7) 0 0) qmX12_run (qc_QM 0 0 (qc_eq (some (.int r)) w (I', L', D', R'))) 0 0 w (225, [(0, .ref 291), (1, .int x1), (2, .int x2)], [], I, L, D, R) := by
  unfold fX12_run_b225 at h
  exact And.imp_right (fun hx => qc_iconst (qc_at qkX12_run 135 rfl) <| qc_goto (qc_at qkX12_run 136 rfl) <| qc_sub [0, 1, 2] rfl hx) (tX12_run_b230 hn hR hk139 h)
def fX12_run_b229 (w : qcW) (k139 : qTI × qTL × qTD × qTR × Int32 × Int32 → qcO Int32) (I : qTI) (L : qTL) (D : qTD) (R : qTR) (x1 : Int32) (x2 : Int32) : qcO Int32 :=
  (fX12_run_b230 w k139 I L D R x1 x2 (0 : Int32))
set_option maxRecDepth 100000 in
set_option maxHeartbeats 4000000 in
theorem tX12_run_b229 {w : qcW} {I : qTI} {L : qTL} {D : qTD} {R : qTR} {k139 : qTI × qTL × qTD × qTR × Int32 × Int32 → qcO Int32} {x1 : Int32} {x2 : Int32} {r : Int32} {I' : qTI} {L' : qTL} {D' : qTD} {R' : qTR} (hn : qcNF ≤ w.1) (hR : qc_FR R) (hk139 : ∀ {I : qTI} {L : qTL} {D : qTD} {R : qTR} {x1 : Int32} {x2 : Int32} {r : Int32} {I' : qTI} {L' : qTL} {D' : qTD} {R' : qTR}, qc_FR R → k139 (I, L, D, R, x1, x2) = some (r, I', L', D', R') → qc_fm qcSM (I, L, D, R) (I', L', D', R') ∧ qc_X (qc_rm (7) 0 0) qmX12_run (qc_QM 0 0 (qc_eq (some (.int r)) w (I', L', D', R'))) 0 0 w (139, [(0, .ref 291), (1, .int x1), (2, .int x2)], [], I, L, D, R)) (h : fX12_run_b229 w k139 I L D R x1 x2 = some (r, I', L', D', R')) : qc_fm qcSM (I, L, D, R) (I', L', D', R') ∧ qc_X (qc_rm (7) 0 0) qmX12_run (qc_QM 0 0 (qc_eq (some (.int r)) w (I', L', D', R'))) 0 0 w (229, [(0, .ref 291), (1, .int x1), (2, .int x2)], [], I, L, D, R) := by
  unfold fX12_run_b229 at h
  exact And.imp_right (fun hx => qc_iconst (qc_at qkX12_run 137 rfl) <| qc_sub [0, 1, 2] rfl hx) (tX12_run_b230 hn hR hk139 h)
def fX12_run_b206 (w : qcW) (k139 : qTI × qTL × qTD × qTR × Int32 × Int32 → qcO Int32) (I : qTI) (L : qTL) (D : qTD) (R : qTR) (x1 : Int32) (x2 : Int32) (x3 : Int32) (s0 : Int32) : qcO Int32 :=
  (if x3 = 0 then (fX12_run_b229 w k139 I L D R x1 x2) else (if s0 = 0 then (fX12_run_b225 w k139 I L D R x1 x2) else (qc_bd (fX12_goesOn w I L D R x2) fun r5 I5 L5 D5 R5 => if r5 = true then (fX12_run_b225 w k139 I5 L5 D5 R5 x1 x2) else (fX12_run_b229 w k139 I5 L5 D5 R5 x1 x2))))
set_option maxRecDepth 100000 in
set_option maxHeartbeats 4000000 in
theorem tX12_run_b206 {w : qcW} {I : qTI} {L : qTL} {D : qTD} {R : qTR} {k139 : qTI × qTL × qTD × qTR × Int32 × Int32 → qcO Int32} {x1 : Int32} {x2 : Int32} {x3 : Int32} {s0 : Int32} {r : Int32} {I' : qTI} {L' : qTL} {D' : qTD} {R' : qTR} (hn : qcNF ≤ w.1) (hR : qc_FR R) (hk139 : ∀ {I : qTI} {L : qTL} {D : qTD} {R : qTR} {x1 : Int32} {x2 : Int32} {r : Int32} {I' : qTI} {L' : qTL} {D' : qTD} {R' : qTR}, qc_FR R → k139 (I, L, D, R, x1, x2) = some (r, I', L', D', R') → qc_fm qcSM (I, L, D, R) (I', L', D', R') ∧ qc_X (qc_rm (7) 0 0) qmX12_run (qc_QM 0 0 (qc_eq (some (.int r)) w (I', L', D', R'))) 0 0 w (139, [(0, .ref 291), (1, .int x1), (2, .int x2)], [], I, L, D, R)) (h : fX12_run_b206 w k139 I L D R x1 x2 x3 s0 = some (r, I', L', D', R')) : qc_fm qcSM (I, L, D, R) (I', L', D', R') ∧ qc_X (qc_rm (7) 0 0) qmX12_run (qc_QM 0 0 (qc_eq (some (.int r)) w (I', L', D', R'))) 0 0 w (206, [(0, .ref 291), (1, .int x1), (2, .int x2), (3, .int x3)], [.int s0], I, L, D, R) := by
  unfold fX12_run_b206 at h
  refine And.imp_right (fun hx => qc_istore (lv' := [(4, _), (0, _), (1, _), (2, _), (3, _)]) (qc_at qkX12_run 126 rfl) rfl rfl <| qc_iload_n (qc_at qkX12_run 127 rfl) rfl <| hx) ?_
  refine qc_andC (qc_if_eq (qc_at qkX12_run 128 rfl)) (fun u3 => ?_) (fun u3 => ?_)
  · replace h := qc_jp u3 h
    exact And.imp_right (fun hx => qc_sub [1, 2, 3] rfl hx) (tX12_run_b229 hn hR hk139 h)
  · replace h := qc_jn u3 h
    refine And.imp_right (fun hx => qc_iload (qc_at qkX12_run 129 rfl) rfl <| hx) ?_
    refine qc_andC (qc_if_eq (qc_at qkX12_run 130 rfl)) (fun u4 => ?_) (fun u4 => ?_)
    · replace h := qc_jp u4 h
      exact And.imp_right (fun hx => qc_sub [1, 2, 3] rfl hx) (tX12_run_b225 hn hR hk139 h)
    · replace h := qc_jn u4 h
      refine And.imp_right (fun hx => qc_aload_n (qc_at qkX12_run 131 rfl) rfl <| qc_iload_n (qc_at qkX12_run 132 rfl) rfl <| hx) ?_
      obtain ⟨r5, I5, L5, D5, R5, e5, h⟩ := qc_bd_of h
      have c5 := (tX12_goesOn hn hR e5)
      refine qd_cVv (ci := 10) (a0 := 291) (qc_at qkX12_run 133 rfl) ql_12_730 qfX12_goesOn (qc_kf hn rfl) rfl c5 rfl rfl (Nat.le_of_ble_eq_true rfl) (qc_rml (by decide) (by decide)) ⟨Nat.zero_le _, Nat.zero_le _⟩ ?_
      refine qc_andB (qc_ifB_eq (qc_at qkX12_run 134 rfl)) (fun u6 => ?_) (fun u6 => ?_)
      · replace h := qc_jf u6 h
        exact And.imp_right (fun hx => qc_sub [1, 2, 3] rfl hx) (tX12_run_b229 hn (c5.1.1 hR) hk139 h)
      · replace h := qc_jt u6 h
        exact And.imp_right (fun hx => qc_sub [1, 2, 3] rfl hx) (tX12_run_b225 hn (c5.1.1 hR) hk139 h)
def fX12_run_b201 (w : qcW) (k139 : qTI × qTL × qTD × qTR × Int32 × Int32 → qcO Int32) (I : qTI) (L : qTL) (D : qTD) (R : qTR) (x1 : Int32) (x2 : Int32) (x3 : Int32) : qcO Int32 :=
  (fX12_run_b206 w k139 I L D R x1 x2 x3 (1 : Int32))
set_option maxRecDepth 100000 in
set_option maxHeartbeats 4000000 in
theorem tX12_run_b201 {w : qcW} {I : qTI} {L : qTL} {D : qTD} {R : qTR} {k139 : qTI × qTL × qTD × qTR × Int32 × Int32 → qcO Int32} {x1 : Int32} {x2 : Int32} {x3 : Int32} {r : Int32} {I' : qTI} {L' : qTL} {D' : qTD} {R' : qTR} (hn : qcNF ≤ w.1) (hR : qc_FR R) (hk139 : ∀ {I : qTI} {L : qTL} {D : qTD} {R : qTR} {x1 : Int32} {x2 : Int32} {r : Int32} {I' : qTI} {L' : qTL} {D' : qTD} {R' : qTR}, qc_FR R → k139 (I, L, D, R, x1, x2) = some (r, I', L', D', R') → qc_fm qcSM (I, L, D, R) (I', L', D', R') ∧ qc_X (qc_rm (7) 0 0) qmX12_run (qc_QM 0 0 (qc_eq (some (.int r)) w (I', L', D', R'))) 0 0 w (139, [(0, .ref 291), (1, .int x1), (2, .int x2)], [], I, L, D, R)) (h : fX12_run_b201 w k139 I L D R x1 x2 x3 = some (r, I', L', D', R')) : qc_fm qcSM (I, L, D, R) (I', L', D', R') ∧ qc_X (qc_rm (7) 0 0) qmX12_run (qc_QM 0 0 (qc_eq (some (.int r)) w (I', L', D', R'))) 0 0 w (201, [(0, .ref 291), (1, .int x1), (2, .int x2), (3, .int x3)], [], I, L, D, R) := by
  unfold fX12_run_b201 at h
  exact And.imp_right (fun hx => qc_iconst (qc_at qkX12_run 123 rfl) <| qc_goto (qc_at qkX12_run 124 rfl) <| qc_sub [0, 1, 2, 3] rfl hx) (tX12_run_b206 hn hR hk139 h)
def fX12_run_b205 (w : qcW) (k139 : qTI × qTL × qTD × qTR × Int32 × Int32 → qcO Int32) (I : qTI) (L : qTL) (D : qTD) (R : qTR) (x1 : Int32) (x2 : Int32) (x3 : Int32) : qcO Int32 :=
  (fX12_run_b206 w k139 I L D R x1 x2 x3 (0 : Int32))
set_option maxRecDepth 100000 in
set_option maxHeartbeats 4000000 in
theorem tX12_run_b205 {w : qcW} {I : qTI} {L : qTL} {D : qTD} {R : qTR} {k139 : qTI × qTL × qTD × qTR × Int32 × Int32 → qcO Int32} {x1 : Int32} {x2 : Int32} {x3 : Int32} {r : Int32} {I' : qTI} {L' : qTL} {D' : qTD} {R' : qTR} (hn : qcNF ≤ w.1) (hR : qc_FR R) (hk139 : ∀ {I : qTI} {L : qTL} {D : qTD} {R : qTR} {x1 : Int32} {x2 : Int32} {r : Int32} {I' : qTI} {L' : qTL} {D' : qTD} {R' : qTR}, qc_FR R → k139 (I, L, D, R, x1, x2) = some (r, I', L', D', R') → qc_fm qcSM (I, L, D, R) (I', L', D', R') ∧ qc_X (qc_rm (7) 0 0) qmX12_run (qc_QM 0 0 (qc_eq (some (.int r)) w (I', L', D', R'))) 0 0 w (139, [(0, .ref 291), (1, .int x1), (2, .int x2)], [], I, L, D, R)) (h : fX12_run_b205 w k139 I L D R x1 x2 x3 = some (r, I', L', D', R')) : qc_fm qcSM (I, L, D, R) (I', L', D', R') ∧ qc_X (qc_rm (7) 0 0) qmX12_run (qc_QM 0 0 (qc_eq (some (.int r)) w (I', L', D', R'))) 0 0 w (205, [(0, .ref 291), (1, .int x1), (2, .int x2), (3, .int x3)], [], I, L, D, R) := by
  unfold fX12_run_b205 at h
  exact And.imp_right (fun hx => qc_iconst (qc_at qkX12_run 125 rfl) <| qc_sub [0, 1, 2, 3] rfl hx) (tX12_run_b206 hn hR hk139 h)
def fX12_run_b174 (w : qcW) (k139 : qTI × qTL × qTD × qTR × Int32 × Int32 → qcO Int32) (I : qTI) (L : qTL) (D : qTD) (R : qTR) (x1 : Int32) (x2 : Int32) (s0 : Int32) : qcO Int32 :=
  (if s0 = 0 then (fX12_run_b205 w k139 I L D R x1 x2 s0) else (qc_gd (qc_inb ((3 : Int32) * x1) 36) <| if (I 317 (Int32.toNatClampNeg ((3 : Int32) * x1))) = 0 then (fX12_run_b201 w k139 I L D R x1 x2 s0) else (if (lg_cmp (L 328 (Int32.toNatClampNeg (0 : Int32))) (0 : Int64)) = 0 then (fX12_run_b205 w k139 I L D R x1 x2 s0) else (fX12_run_b201 w k139 I L D R x1 x2 s0))))
set_option maxRecDepth 100000 in
set_option maxHeartbeats 4000000 in
theorem tX12_run_b174 {w : qcW} {I : qTI} {L : qTL} {D : qTD} {R : qTR} {k139 : qTI × qTL × qTD × qTR × Int32 × Int32 → qcO Int32} {x1 : Int32} {x2 : Int32} {s0 : Int32} {r : Int32} {I' : qTI} {L' : qTL} {D' : qTD} {R' : qTR} (hn : qcNF ≤ w.1) (hR : qc_FR R) (hk139 : ∀ {I : qTI} {L : qTL} {D : qTD} {R : qTR} {x1 : Int32} {x2 : Int32} {r : Int32} {I' : qTI} {L' : qTL} {D' : qTD} {R' : qTR}, qc_FR R → k139 (I, L, D, R, x1, x2) = some (r, I', L', D', R') → qc_fm qcSM (I, L, D, R) (I', L', D', R') ∧ qc_X (qc_rm (7) 0 0) qmX12_run (qc_QM 0 0 (qc_eq (some (.int r)) w (I', L', D', R'))) 0 0 w (139, [(0, .ref 291), (1, .int x1), (2, .int x2)], [], I, L, D, R)) (h : fX12_run_b174 w k139 I L D R x1 x2 s0 = some (r, I', L', D', R')) : qc_fm qcSM (I, L, D, R) (I', L', D', R') ∧ qc_X (qc_rm (7) 0 0) qmX12_run (qc_QM 0 0 (qc_eq (some (.int r)) w (I', L', D', R'))) 0 0 w (174, [(0, .ref 291), (1, .int x1), (2, .int x2)], [.int s0], I, L, D, R) := by
  unfold fX12_run_b174 at h
  refine And.imp_right (fun hx => qc_istore_n (lv' := [(3, _), (0, _), (1, _), (2, _)]) (qc_at qkX12_run 106 rfl) rfl rfl <| qc_iload_n (qc_at qkX12_run 107 rfl) rfl <| hx) ?_
  refine qc_andC (qc_if_eq (qc_at qkX12_run 108 rfl)) (fun u7 => ?_) (fun u7 => ?_)
  · replace h := qc_jp u7 h
    exact And.imp_right (fun hx => qc_sub [1, 2, 3, 0] rfl hx) (tX12_run_b205 hn hR hk139 h)
  · replace h := qc_jn u7 h
    refine And.imp_right (fun hx => qc_aload_n (qc_at qkX12_run 109 rfl) rfl <| qc_gR (qc_at qkX12_run 110 rfl) hn rfl (qfr_291_43 hR) rfl <| qc_iconst (qc_at qkX12_run 111 rfl) <| qc_iload_n (qc_at qkX12_run 112 rfl) rfl <| qc_imul (qc_at qkX12_run 113 rfl) <| hx) ?_
    obtain ⟨g8, h⟩ := qc_gd_of h
    refine And.imp_right (fun hx => qc_iald 36 (qc_at qkX12_run 114 rfl) hn rfl (qc_inb_in g8) <| hx) ?_
    refine qc_andC (qc_if_eq (qc_at qkX12_run 115 rfl)) (fun u9 => ?_) (fun u9 => ?_)
    · replace h := qc_jp u9 h
      exact And.imp_right (fun hx => qc_sub [1, 2, 3, 0] rfl hx) (tX12_run_b201 hn hR hk139 h)
    · replace h := qc_jn u9 h
      refine And.imp_right (fun hx => qc_aload_n (qc_at qkX12_run 116 rfl) rfl <| qc_gR (qc_at qkX12_run 117 rfl) hn rfl (qfr_291_65 hR) rfl <| qc_iconst (qc_at qkX12_run 118 rfl) <| qc_lald 32 (qc_at qkX12_run 119 rfl) hn rfl (qc_inb_in (by decide)) <| qc_lconst (qc_at qkX12_run 120 rfl) <| qc_lcmp (qc_at qkX12_run 121 rfl) <| hx) ?_
      refine qc_andC (qc_if_eq (qc_at qkX12_run 122 rfl)) (fun u10 => ?_) (fun u10 => ?_)
      · replace h := qc_jp u10 h
        exact And.imp_right (fun hx => qc_sub [1, 2, 3, 0] rfl hx) (tX12_run_b205 hn hR hk139 h)
      · replace h := qc_jn u10 h
        exact And.imp_right (fun hx => qc_sub [1, 2, 3, 0] rfl hx) (tX12_run_b201 hn hR hk139 h)
def fX12_run_b169 (w : qcW) (k139 : qTI × qTL × qTD × qTR × Int32 × Int32 → qcO Int32) (I : qTI) (L : qTL) (D : qTD) (R : qTR) (x1 : Int32) (x2 : Int32) : qcO Int32 :=
  (fX12_run_b174 w k139 I L D R x1 x2 (1 : Int32))
set_option maxRecDepth 100000 in
set_option maxHeartbeats 4000000 in
theorem tX12_run_b169 {w : qcW} {I : qTI} {L : qTL} {D : qTD} {R : qTR} {k139 : qTI × qTL × qTD × qTR × Int32 × Int32 → qcO Int32} {x1 : Int32} {x2 : Int32} {r : Int32} {I' : qTI} {L' : qTL} {D' : qTD} {R' : qTR} (hn : qcNF ≤ w.1) (hR : qc_FR R) (hk139 : ∀ {I : qTI} {L : qTL} {D : qTD} {R : qTR} {x1 : Int32} {x2 : Int32} {r : Int32} {I' : qTI} {L' : qTL} {D' : qTD} {R' : qTR}, qc_FR R → k139 (I, L, D, R, x1, x2) = some (r, I', L', D', R') → qc_fm qcSM (I, L, D, R) (I', L', D', R') ∧ qc_X (qc_rm (7) 0 0) qmX12_run (qc_QM 0 0 (qc_eq (some (.int r)) w (I', L', D', R'))) 0 0 w (139, [(0, .ref 291), (1, .int x1), (2, .int x2)], [], I, L, D, R)) (h : fX12_run_b169 w k139 I L D R x1 x2 = some (r, I', L', D', R')) : qc_fm qcSM (I, L, D, R) (I', L', D', R') ∧ qc_X (qc_rm (7) 0 0) qmX12_run (qc_QM 0 0 (qc_eq (some (.int r)) w (I', L', D', R'))) 0 0 w (169, [(0, .ref 291), (1, .int x1), (2, .int x2)], [], I, L, D, R) := by
  unfold fX12_run_b169 at h
  exact And.imp_right (fun hx => qc_iconst (qc_at qkX12_run 103 rfl) <| qc_goto (qc_at qkX12_run 104 rfl) <| qc_sub [0, 1, 2] rfl hx) (tX12_run_b174 hn hR hk139 h)
def fX12_run_b329 (w : qcW) (I : qTI) (L : qTL) (D : qTD) (R : qTR) : qcO Int32 :=
  (some (((qc_u I 291 81 (I 291 81)) 291 81), (qc_u I 291 81 (I 291 81)), L, D, R))
set_option maxRecDepth 100000 in
set_option maxHeartbeats 4000000 in
theorem tX12_run_b329 {w : qcW} {I : qTI} {L : qTL} {D : qTD} {R : qTR} {r : Int32} {I' : qTI} {L' : qTL} {D' : qTD} {R' : qTR} (hn : qcNF ≤ w.1) (hR : qc_FR R) (h : fX12_run_b329 w I L D R = some (r, I', L', D', R')) : qc_fm qcSM (I, L, D, R) (I', L', D', R') ∧ qc_X (qc_rm (7) 0 0) qmX12_run (qc_QM 0 0 (qc_eq (some (.int r)) w (I', L', D', R'))) 0 0 w (329, [(0, .ref 291)], [.ref 291], I, L, D, R) := by
  unfold fX12_run_b329 at h
  refine And.imp_right (fun hx => qc_aload_n (qc_at qkX12_run 194 rfl) rfl <| qc_gI (qc_at qkX12_run 195 rfl) hn rfl <| hx) (qd_pI (qc_at qkX12_run 196 rfl) hn rfl rfl ?_)
  obtain ⟨rfl, rfl, rfl, rfl, rfl⟩ := qc_some5 h
  exact ⟨qc_fm.rf _, qc_aload_n (qc_at qkX12_run 197 rfl) rfl <| qc_gI (qc_at qkX12_run 198 rfl) hn rfl <| qc_iret (qc_at qkX12_run 199 rfl) rfl (Nat.le_refl _) (Nat.le_refl _) (qc_eq.rf _ _ _)⟩
def fX12_run_b296 (w : qcW) (I : qTI) (L : qTL) (D : qTD) (R : qTR) (x1 : Int32) : qcO Int32 :=
  (qc_gd (qc_inb x1 12) <| if (I 320 (Int32.toNatClampNeg x1)) = (-1 : Int32) then (fX12_run_b329 w I L D R) else (qc_gd (qc_inb x1 12) <| if (I 291 81) ≤ (I 320 (Int32.toNatClampNeg x1)) then (fX12_run_b329 w I L D R) else (qc_gd (qc_inb x1 12) <| some (((qc_u I 291 81 (I 320 (Int32.toNatClampNeg x1))) 291 81), (qc_u I 291 81 (I 320 (Int32.toNatClampNeg x1))), L, D, R))))
set_option maxRecDepth 100000 in
set_option maxHeartbeats 4000000 in
theorem tX12_run_b296 {w : qcW} {I : qTI} {L : qTL} {D : qTD} {R : qTR} {x1 : Int32} {r : Int32} {I' : qTI} {L' : qTL} {D' : qTD} {R' : qTR} (hn : qcNF ≤ w.1) (hR : qc_FR R) (h : fX12_run_b296 w I L D R x1 = some (r, I', L', D', R')) : qc_fm qcSM (I, L, D, R) (I', L', D', R') ∧ qc_X (qc_rm (7) 0 0) qmX12_run (qc_QM 0 0 (qc_eq (some (.int r)) w (I', L', D', R'))) 0 0 w (296, [(0, .ref 291), (1, .int x1)], [], I, L, D, R) := by
  unfold fX12_run_b296 at h
  refine And.imp_right (fun hx => qc_aload_n (qc_at qkX12_run 175 rfl) rfl <| qc_aload_n (qc_at qkX12_run 176 rfl) rfl <| qc_gR (qc_at qkX12_run 177 rfl) hn rfl (qfr_291_46 hR) rfl <| qc_iload_n (qc_at qkX12_run 178 rfl) rfl <| hx) ?_
  obtain ⟨g11, h⟩ := qc_gd_of h
  refine And.imp_right (fun hx => qc_iald 12 (qc_at qkX12_run 179 rfl) hn rfl (qc_inb_in g11) <| qc_iconst (qc_at qkX12_run 180 rfl) <| hx) ?_
  refine qc_andC (qc_icmp_eq (qc_at qkX12_run 181 rfl)) (fun u12 => ?_) (fun u12 => ?_)
  · replace h := qc_jp u12 h
    exact And.imp_right (fun hx => qc_sub [0] rfl hx) (tX12_run_b329 hn hR h)
  · replace h := qc_jn u12 h
    refine And.imp_right (fun hx => qc_aload_n (qc_at qkX12_run 182 rfl) rfl <| qc_gR (qc_at qkX12_run 183 rfl) hn rfl (qfr_291_46 hR) rfl <| qc_iload_n (qc_at qkX12_run 184 rfl) rfl <| hx) ?_
    obtain ⟨g13, h⟩ := qc_gd_of h
    refine And.imp_right (fun hx => qc_iald 12 (qc_at qkX12_run 185 rfl) hn rfl (qc_inb_in g13) <| qc_aload_n (qc_at qkX12_run 186 rfl) rfl <| qc_gI (qc_at qkX12_run 187 rfl) hn rfl <| hx) ?_
    refine qc_andC (qc_icmp_ge (qc_at qkX12_run 188 rfl)) (fun u14 => ?_) (fun u14 => ?_)
    · replace h := qc_jp u14 h
      exact And.imp_right (fun hx => qc_sub [0] rfl hx) (tX12_run_b329 hn hR h)
    · replace h := qc_jn u14 h
      refine And.imp_right (fun hx => qc_aload_n (qc_at qkX12_run 189 rfl) rfl <| qc_gR (qc_at qkX12_run 190 rfl) hn rfl (qfr_291_46 hR) rfl <| qc_iload_n (qc_at qkX12_run 191 rfl) rfl <| hx) ?_
      obtain ⟨g15, h⟩ := qc_gd_of h
      refine And.imp_right (fun hx => qc_iald 12 (qc_at qkX12_run 192 rfl) hn rfl (qc_inb_in g15) <| qc_goto (qc_at qkX12_run 193 rfl) <| hx) (qd_pI (qc_at qkX12_run 196 rfl) hn rfl rfl ?_)
      obtain ⟨rfl, rfl, rfl, rfl, rfl⟩ := qc_some5 h
      exact ⟨qc_fm.rf _, qc_aload_n (qc_at qkX12_run 197 rfl) rfl <| qc_gI (qc_at qkX12_run 198 rfl) hn rfl <| qc_iret (qc_at qkX12_run 199 rfl) rfl (Nat.le_refl _) (Nat.le_refl _) (qc_eq.rf _ _ _)⟩
def fX12_run_b139 (w : qcW) (k139 : qTI × qTL × qTD × qTR × Int32 × Int32 → qcO Int32) (I : qTI) (L : qTL) (D : qTD) (R : qTR) (x1 : Int32) (x2 : Int32) : qcO Int32 :=
  (if (I 291 0) ≤ (I 291 71) then (if x2 = 0 then (qc_gd (qc_inb x1 12) <| if ((qc_u I 291 78 (0 : Int32)) 319 (Int32.toNatClampNeg x1)) = (-1 : Int32) then (fX12_run_b296 w (qc_u I 291 78 (0 : Int32)) L D R x1) else (qc_bd (fX12_sorts w (qc_u I 291 78 (0 : Int32)) L D R) fun r20 I20 L20 D20 R20 => fX12_run_b296 w I20 L20 D20 R20 x1)) else (some (((qc_u I 291 78 (0 : Int32)) 291 81), (qc_u I 291 78 (0 : Int32)), L, D, R))) else (qc_gd (qc_inb ((3 : Int32) * x1) 36) <| if (I 317 (Int32.toNatClampNeg ((3 : Int32) * x1))) = 0 then (fX12_run_b169 w k139 I L D R x1 x2) else (qc_bd (fX12_works w I L D R (0 : Int32)) fun r23 I23 L23 D23 R23 => if r23 = true then (fX12_run_b169 w k139 I23 L23 D23 R23 x1 x2) else (fX12_run_b174 w k139 I23 L23 D23 R23 x1 x2 (0 : Int32)))))
set_option maxRecDepth 100000 in
set_option maxHeartbeats 4000000 in
theorem tX12_run_b139 {w : qcW} {I : qTI} {L : qTL} {D : qTD} {R : qTR} {k139 : qTI × qTL × qTD × qTR × Int32 × Int32 → qcO Int32} {x1 : Int32} {x2 : Int32} {r : Int32} {I' : qTI} {L' : qTL} {D' : qTD} {R' : qTR} (hn : qcNF ≤ w.1) (hR : qc_FR R) (hk139 : ∀ {I : qTI} {L : qTL} {D : qTD} {R : qTR} {x1 : Int32} {x2 : Int32} {r : Int32} {I' : qTI} {L' : qTL} {D' : qTD} {R' : qTR}, qc_FR R → k139 (I, L, D, R, x1, x2) = some (r, I', L', D', R') → qc_fm qcSM (I, L, D, R) (I', L', D', R') ∧ qc_X (qc_rm (7) 0 0) qmX12_run (qc_QM 0 0 (qc_eq (some (.int r)) w (I', L', D', R'))) 0 0 w (139, [(0, .ref 291), (1, .int x1), (2, .int x2)], [], I, L, D, R)) (h : fX12_run_b139 w k139 I L D R x1 x2 = some (r, I', L', D', R')) : qc_fm qcSM (I, L, D, R) (I', L', D', R') ∧ qc_X (qc_rm (7) 0 0) qmX12_run (qc_QM 0 0 (qc_eq (some (.int r)) w (I', L', D', R'))) 0 0 w (139, [(0, .ref 291), (1, .int x1), (2, .int x2)], [], I, L, D, R) := by
  unfold fX12_run_b139 at h
  refine And.imp_right (fun hx => qc_aload_n (qc_at qkX12_run 87 rfl) rfl <| qc_gI (qc_at qkX12_run 88 rfl) hn rfl <| qc_aload_n (qc_at qkX12_run 89 rfl) rfl <| qc_gI (qc_at qkX12_run 90 rfl) hn rfl <| hx) ?_
  refine qc_andC (qc_icmp_ge (qc_at qkX12_run 91 rfl)) (fun u16 => ?_) (fun u16 => ?_)
  · replace h := qc_jp u16 h
    refine And.imp_right (fun hx => qc_aload_n (qc_at qkX12_run 162 rfl) rfl <| qc_iconst (qc_at qkX12_run 163 rfl) <| hx) (qd_pI (qc_at qkX12_run 164 rfl) hn rfl rfl ?_)
    refine And.imp_right (fun hx => qc_iload_n (qc_at qkX12_run 165 rfl) rfl <| hx) ?_
    refine qc_andN (qc_if_ne (qc_at qkX12_run 166 rfl)) (fun u17 => ?_) (fun u17 => ?_)
    · replace h := qc_jn u17 h
      obtain ⟨rfl, rfl, rfl, rfl, rfl⟩ := qc_some5 h
      exact ⟨qc_fm.rf _, qc_aload_n (qc_at qkX12_run 197 rfl) rfl <| qc_gI (qc_at qkX12_run 198 rfl) hn rfl <| qc_iret (qc_at qkX12_run 199 rfl) rfl (Nat.le_refl _) (Nat.le_refl _) (qc_eq.rf _ _ _)⟩
    · replace h := qc_jp u17 h
      refine And.imp_right (fun hx => qc_aload_n (qc_at qkX12_run 167 rfl) rfl <| qc_gR (qc_at qkX12_run 168 rfl) hn rfl (qfr_291_45 hR) rfl <| qc_iload_n (qc_at qkX12_run 169 rfl) rfl <| hx) ?_
      obtain ⟨g18, h⟩ := qc_gd_of h
      refine And.imp_right (fun hx => qc_iald 12 (qc_at qkX12_run 170 rfl) hn rfl (qc_inb_in g18) <| qc_iconst (qc_at qkX12_run 171 rfl) <| hx) ?_
      refine qc_andC (qc_icmp_eq (qc_at qkX12_run 172 rfl)) (fun u19 => ?_) (fun u19 => ?_)
      · replace h := qc_jp u19 h
        exact And.imp_right (fun hx => qc_sub [0, 1] rfl hx) (tX12_run_b296 hn hR h)
      · replace h := qc_jn u19 h
        refine And.imp_right (fun hx => qc_aload_n (qc_at qkX12_run 173 rfl) rfl <| hx) ?_
        obtain ⟨r20, I20, L20, D20, R20, e20, h⟩ := qc_bd_of h
        have c20 := (tX12_sorts hn hR e20)
        refine qd_cVn (ci := 10) (a0 := 291) (qc_at qkX12_run 174 rfl) ql_12_739 qfX12_sorts (qc_kf hn rfl) rfl c20 rfl rfl (Nat.le_of_ble_eq_true rfl) (qc_rml (by decide) (by decide)) ⟨Nat.zero_le _, Nat.zero_le _⟩ ?_
        exact And.imp_right (fun hx => qc_sub [0, 1] rfl hx) (tX12_run_b296 hn (c20.1.1 hR) h)
  · replace h := qc_jn u16 h
    refine And.imp_right (fun hx => qc_aload_n (qc_at qkX12_run 92 rfl) rfl <| qc_gR (qc_at qkX12_run 93 rfl) hn rfl (qfr_291_43 hR) rfl <| qc_iconst (qc_at qkX12_run 94 rfl) <| qc_iload_n (qc_at qkX12_run 95 rfl) rfl <| qc_imul (qc_at qkX12_run 96 rfl) <| hx) ?_
    obtain ⟨g21, h⟩ := qc_gd_of h
    refine And.imp_right (fun hx => qc_iald 36 (qc_at qkX12_run 97 rfl) hn rfl (qc_inb_in g21) <| hx) ?_
    refine qc_andC (qc_if_eq (qc_at qkX12_run 98 rfl)) (fun u22 => ?_) (fun u22 => ?_)
    · replace h := qc_jp u22 h
      exact And.imp_right (fun hx => qc_sub [0, 1, 2] rfl hx) (tX12_run_b169 hn hR hk139 h)
    · replace h := qc_jn u22 h
      refine And.imp_right (fun hx => qc_aload_n (qc_at qkX12_run 99 rfl) rfl <| qc_iconst (qc_at qkX12_run 100 rfl) <| hx) ?_
      obtain ⟨r23, I23, L23, D23, R23, e23, h⟩ := qc_bd_of h
      have c23 := (tX12_works hn hR e23)
      refine qd_cVv (ci := 10) (a0 := 291) (qc_at qkX12_run 101 rfl) ql_12_713 qfX12_works (qc_kf hn rfl) rfl c23 rfl rfl (Nat.le_of_ble_eq_true rfl) (qc_rml (by decide) (by decide)) ⟨Nat.zero_le _, Nat.zero_le _⟩ ?_
      refine qc_andB (qc_ifB_eq (qc_at qkX12_run 102 rfl)) (fun u24 => ?_) (fun u24 => ?_)
      · replace h := qc_jf u24 h
        exact And.imp_right (fun hx => qc_iconst (qc_at qkX12_run 105 rfl) <| qc_sub [0, 1, 2] rfl hx) (tX12_run_b174 hn (c23.1.1 hR) hk139 h)
      · replace h := qc_jt u24 h
        exact And.imp_right (fun hx => qc_sub [0, 1, 2] rfl hx) (tX12_run_b169 hn (c23.1.1 hR) hk139 h)
def fX12_run_l139 (w : qcW) : Nat → qTI × qTL × qTD × qTR × Int32 × Int32 → qcO Int32 := qc_lp (fun k q => match q with | (I, L, D, R, x1, x2) => fX12_run_b139 w k I L D R x1 x2)
set_option maxRecDepth 100000 in
set_option maxHeartbeats 4000000 in
theorem tX12_run_l139 {w : qcW} (hn : qcNF ≤ w.1) : ∀ (n : Nat) {r : Int32} {I' : qTI} {L' : qTL} {D' : qTD} {R' : qTR} {I : qTI} {L : qTL} {D : qTD} {R : qTR} {x1 : Int32} {x2 : Int32} (hR : qc_FR R) (h : fX12_run_l139 w n (I, L, D, R, x1, x2) = some (r, I', L', D', R')), qc_fm qcSM (I, L, D, R) (I', L', D', R') ∧ qc_X (qc_rm (7) 0 0) qmX12_run (qc_QM 0 0 (qc_eq (some (.int r)) w (I', L', D', R'))) 0 0 w (139, [(0, .ref 291), (1, .int x1), (2, .int x2)], [], I, L, D, R) := by
  intro n
  induction n with
  | zero => intro _ _ _ _ _ _ _ _ _ _ _ _ h; cases h
  | succ n ih => intro _ _ _ _ _ _ _ _ _ _ _ hR h; exact tX12_run_b139 hn hR (k139 := fX12_run_l139 w n) (fun hR h => ih hR h) h
def fX12_run_b134 (w : qcW) (I : qTI) (L : qTL) (D : qTD) (R : qTR) (x1 : Int32) (x2 : Int32) : qcO Int32 :=
  (fX12_run_l139 w qcF ((qc_u I 291 71 (0 : Int32)), L, D, R, x1, x2))
set_option maxRecDepth 100000 in
set_option maxHeartbeats 4000000 in
theorem tX12_run_b134 {w : qcW} {I : qTI} {L : qTL} {D : qTD} {R : qTR} {x1 : Int32} {x2 : Int32} {r : Int32} {I' : qTI} {L' : qTL} {D' : qTD} {R' : qTR} (hn : qcNF ≤ w.1) (hR : qc_FR R) (h : fX12_run_b134 w I L D R x1 x2 = some (r, I', L', D', R')) : qc_fm qcSM (I, L, D, R) (I', L', D', R') ∧ qc_X (qc_rm (7) 0 0) qmX12_run (qc_QM 0 0 (qc_eq (some (.int r)) w (I', L', D', R'))) 0 0 w (134, [(0, .ref 291), (1, .int x1), (2, .int x2)], [], I, L, D, R) := by
  unfold fX12_run_b134 at h
  refine And.imp_right (fun hx => qc_aload_n (qc_at qkX12_run 84 rfl) rfl <| qc_iconst (qc_at qkX12_run 85 rfl) <| hx) (qd_pI (qc_at qkX12_run 86 rfl) hn rfl rfl ?_)
  exact And.imp_right (fun hx => qc_sub [0, 1, 2] rfl hx) (tX12_run_l139 hn qcF hR h)
def fX12_run_b68 (w : qcW) (I : qTI) (L : qTL) (D : qTD) (R : qTR) (x1 : Int32) (x2 : Int32) (s0 : Int32) : qcO Int32 :=
  (qc_gd (qc_01 s0) <| qc_gd (qc_inb x1 12) <| if ((qc_u (qc_u I 291 82 s0) 291 88 ((qc_u I 291 82 s0) 322 (Int32.toNatClampNeg x1))) 291 82) = 0 then (fX12_run_b134 w (qc_u (qc_u I 291 82 s0) 291 88 ((qc_u I 291 82 s0) 322 (Int32.toNatClampNeg x1))) L D R x1 x2) else (qc_gd (qc_inb (((3 : Int32) * x1) + (2 : Int32)) 36) <| if ((qc_u (qc_u I 291 82 s0) 291 88 ((qc_u I 291 82 s0) 322 (Int32.toNatClampNeg x1))) 317 (Int32.toNatClampNeg (((3 : Int32) * x1) + (2 : Int32)))) = 0 then (fX12_run_b134 w (qc_u (qc_u (qc_u (qc_u I 291 82 s0) 291 88 ((qc_u I 291 82 s0) 322 (Int32.toNatClampNeg x1))) 333 (Int32.toNatClampNeg (0 : Int32)) (0 : Int32)) 291 81 (1 : Int32)) (qc_u (qc_u L 335 (Int32.toNatClampNeg (0 : Int32)) (0 : Int64)) 336 (Int32.toNatClampNeg (0 : Int32)) (0 : Int64)) (qc_u D 337 (Int32.toNatClampNeg (0 : Int32)) (0 : UInt64)) R x1 x2) else (fX12_run_b134 w (qc_u (qc_u I 291 82 s0) 291 88 ((qc_u I 291 82 s0) 322 (Int32.toNatClampNeg x1))) L D R x1 x2)))
set_option maxRecDepth 100000 in
set_option maxHeartbeats 4000000 in
theorem tX12_run_b68 {w : qcW} {I : qTI} {L : qTL} {D : qTD} {R : qTR} {x1 : Int32} {x2 : Int32} {s0 : Int32} {r : Int32} {I' : qTI} {L' : qTL} {D' : qTD} {R' : qTR} (hn : qcNF ≤ w.1) (hR : qc_FR R) (h : fX12_run_b68 w I L D R x1 x2 s0 = some (r, I', L', D', R')) : qc_fm qcSM (I, L, D, R) (I', L', D', R') ∧ qc_X (qc_rm (7) 0 0) qmX12_run (qc_QM 0 0 (qc_eq (some (.int r)) w (I', L', D', R'))) 0 0 w (68, [(0, .ref 291), (1, .int x1), (2, .int x2)], [.int s0, .ref 291], I, L, D, R) := by
  unfold fX12_run_b68 at h
  obtain ⟨g25, h⟩ := qc_gd_of h
  replace g25 := qc_01_of g25
  refine qd_pZ (qc_at qkX12_run 42 rfl) hn rfl g25 rfl ?_
  refine And.imp_right (fun hx => qc_aload_n (qc_at qkX12_run 43 rfl) rfl <| qc_aload_n (qc_at qkX12_run 44 rfl) rfl <| qc_gR (qc_at qkX12_run 45 rfl) hn rfl (qfr_291_48 hR) rfl <| qc_iload_n (qc_at qkX12_run 46 rfl) rfl <| hx) ?_
  obtain ⟨g26, h⟩ := qc_gd_of h
  refine And.imp_right (fun hx => qc_iald 12 (qc_at qkX12_run 47 rfl) hn rfl (qc_inb_in g26) <| hx) (qd_pI (qc_at qkX12_run 48 rfl) hn rfl rfl ?_)
  refine And.imp_right (fun hx => qc_aload_n (qc_at qkX12_run 49 rfl) rfl <| qc_gI (qc_at qkX12_run 50 rfl) hn rfl <| hx) ?_
  refine qc_andC (qc_if_eq (qc_at qkX12_run 51 rfl)) (fun u27 => ?_) (fun u27 => ?_)
  · replace h := qc_jp u27 h
    exact And.imp_right (fun hx => qc_sub [0, 1, 2] rfl hx) (tX12_run_b134 hn hR h)
  · replace h := qc_jn u27 h
    refine And.imp_right (fun hx => qc_aload_n (qc_at qkX12_run 52 rfl) rfl <| qc_gR (qc_at qkX12_run 53 rfl) hn rfl (qfr_291_43 hR) rfl <| qc_iconst (qc_at qkX12_run 54 rfl) <| qc_iload_n (qc_at qkX12_run 55 rfl) rfl <| qc_imul (qc_at qkX12_run 56 rfl) <| qc_iconst (qc_at qkX12_run 57 rfl) <| qc_iadd (qc_at qkX12_run 58 rfl) <| hx) ?_
    obtain ⟨g28, h⟩ := qc_gd_of h
    refine And.imp_right (fun hx => qc_iald 36 (qc_at qkX12_run 59 rfl) hn rfl (qc_inb_in g28) <| hx) ?_
    refine qc_andN (qc_if_ne (qc_at qkX12_run 60 rfl)) (fun u29 => ?_) (fun u29 => ?_)
    · replace h := qc_jn u29 h
      exact And.imp_right (fun hx => qc_sub [0, 1, 2] rfl hx) (tX12_run_b134 hn hR h)
    · replace h := qc_jp u29 h
      refine And.imp_right (fun hx => qc_aload_n (qc_at qkX12_run 61 rfl) rfl <| qc_gR (qc_at qkX12_run 62 rfl) hn rfl (qfr_291_85 hR) rfl <| qc_iconst (qc_at qkX12_run 63 rfl) <| qc_lconst (qc_at qkX12_run 64 rfl) <| hx) (qd_last 8 (qc_at qkX12_run 65 rfl) hn rfl (qc_inb_in (by decide)) rfl ?_)
      refine And.imp_right (fun hx => qc_aload_n (qc_at qkX12_run 66 rfl) rfl <| qc_gR (qc_at qkX12_run 67 rfl) hn rfl (qfr_291_83 hR) rfl <| qc_iconst (qc_at qkX12_run 68 rfl) <| qc_iconst (qc_at qkX12_run 69 rfl) <| hx) (qd_iast 16 (qc_at qkX12_run 70 rfl) hn rfl (qc_inb_in (by decide)) rfl ?_)
      refine And.imp_right (fun hx => qc_aload_n (qc_at qkX12_run 71 rfl) rfl <| qc_gR (qc_at qkX12_run 72 rfl) hn rfl (qfr_291_86 hR) rfl <| qc_iconst (qc_at qkX12_run 73 rfl) <| qc_lconst (qc_at qkX12_run 74 rfl) <| hx) (qd_last 8 (qc_at qkX12_run 75 rfl) hn rfl (qc_inb_in (by decide)) rfl ?_)
      refine And.imp_right (fun hx => qc_aload_n (qc_at qkX12_run 76 rfl) rfl <| qc_gR (qc_at qkX12_run 77 rfl) hn rfl (qfr_291_87 hR) rfl <| qc_iconst (qc_at qkX12_run 78 rfl) <| qc_dconst (qc_at qkX12_run 79 rfl) <| hx) (qd_dast 8 (qc_at qkX12_run 80 rfl) hn rfl (qc_inb_in (by decide)) rfl ?_)
      refine And.imp_right (fun hx => qc_aload_n (qc_at qkX12_run 81 rfl) rfl <| qc_iconst (qc_at qkX12_run 82 rfl) <| hx) (qd_pI (qc_at qkX12_run 83 rfl) hn rfl rfl ?_)
      exact And.imp_right (fun hx => qc_sub [0, 1, 2] rfl hx) (tX12_run_b134 hn hR h)
def fX12_run (w : qcW) (I : qTI) (L : qTL) (D : qTD) (R : qTR) (x1 : Int32) : qcO Int32 :=
  (qc_bd (fX12_isQuery w I L D R x1) fun r30 I30 L30 D30 R30 => if r30 = true then (qc_gd (qc_inb x1 12) <| if ((qc_u (qc_u (qc_u (qc_u (qc_u (qc_u (qc_u I30 291 72 x1) 291 77 x1) 291 79 (-1 : Int32)) 291 80 (-1 : Int32)) 291 69 (0 : Int32)) 291 73 (0 : Int32)) 291 81 (0 : Int32)) 318 (Int32.toNatClampNeg x1)) = (1 : Int32) then (fX12_run_b68 w (qc_u (qc_u (qc_u (qc_u (qc_u (qc_u (qc_u I30 291 72 x1) 291 77 x1) 291 79 (-1 : Int32)) 291 80 (-1 : Int32)) 291 69 (0 : Int32)) 291 73 (0 : Int32)) 291 81 (0 : Int32)) (qc_u L30 291 70 (0 : Int64)) D30 R30 x1 ((qc_u (qc_u (qc_u (qc_u (qc_u (qc_u (qc_u I30 291 72 x1) 291 77 x1) 291 79 (-1 : Int32)) 291 80 (-1 : Int32)) 291 69 (0 : Int32)) 291 73 (0 : Int32)) 291 81 (0 : Int32)) 318 (Int32.toNatClampNeg x1)) (1 : Int32)) else (fX12_run_b68 w (qc_u (qc_u (qc_u (qc_u (qc_u (qc_u (qc_u I30 291 72 x1) 291 77 x1) 291 79 (-1 : Int32)) 291 80 (-1 : Int32)) 291 69 (0 : Int32)) 291 73 (0 : Int32)) 291 81 (0 : Int32)) (qc_u L30 291 70 (0 : Int64)) D30 R30 x1 ((qc_u (qc_u (qc_u (qc_u (qc_u (qc_u (qc_u I30 291 72 x1) 291 77 x1) 291 79 (-1 : Int32)) 291 80 (-1 : Int32)) 291 69 (0 : Int32)) 291 73 (0 : Int32)) 291 81 (0 : Int32)) 318 (Int32.toNatClampNeg x1)) (0 : Int32))) else (some ((-1 : Int32), I30, L30, D30, R30)))
set_option maxRecDepth 100000 in
set_option maxHeartbeats 4000000 in
theorem tX12_run {w : qcW} {I : qTI} {L : qTL} {D : qTD} {R : qTR} {x1 : Int32} {r : Int32} {I' : qTI} {L' : qTL} {D' : qTD} {R' : qTR} (hn : qcNF ≤ w.1) (hR : qc_FR R) (h : fX12_run w I L D R x1 = some (r, I', L', D', R')) : qc_fm qcSM (I, L, D, R) (I', L', D', R') ∧ qc_V (7) 0 0 qmX12_run [.ref 291, .int x1] w (I, L, D, R) (qc_eq (some (.int r)) w (I', L', D', R')) := by
  unfold fX12_run at h
  refine And.imp_right (fun hx => qc_V.of rfl rfl (Nat.le_of_ble_eq_true rfl) (lv := [(0, .ref 291), (1, .int x1)]) rfl hx) ?_
  refine And.imp_right (fun hx => qc_aload_n (qc_at qkX12_run 0 rfl) rfl <| qc_iload_n (qc_at qkX12_run 1 rfl) rfl <| hx) ?_
  obtain ⟨r30, I30, L30, D30, R30, e30, h⟩ := qc_bd_of h
  have c30 := (tX12_isQuery hn hR e30)
  refine qd_cVv (ci := 10) (a0 := 291) (qc_at qkX12_run 2 rfl) ql_12_585 qfX12_isQuery (qc_kf hn rfl) rfl c30 rfl rfl (Nat.le_of_ble_eq_true rfl) (qc_rml (by decide) (by decide)) ⟨Nat.zero_le _, Nat.zero_le _⟩ ?_
  refine qc_andBn (qc_ifB_ne (qc_at qkX12_run 3 rfl)) (fun u31 => ?_) (fun u31 => ?_)
  · replace h := qc_jt u31 h
    refine And.imp_right (fun hx => qc_aload_n (qc_at qkX12_run 6 rfl) rfl <| qc_iload_n (qc_at qkX12_run 7 rfl) rfl <| hx) (qd_pI (qc_at qkX12_run 8 rfl) hn rfl rfl ?_)
    refine And.imp_right (fun hx => qc_aload_n (qc_at qkX12_run 9 rfl) rfl <| qc_iload_n (qc_at qkX12_run 10 rfl) rfl <| hx) (qd_pI (qc_at qkX12_run 11 rfl) hn rfl rfl ?_)
    refine And.imp_right (fun hx => qc_aload_n (qc_at qkX12_run 12 rfl) rfl <| qc_iconst (qc_at qkX12_run 13 rfl) <| hx) (qd_pI (qc_at qkX12_run 14 rfl) hn rfl rfl ?_)
    refine And.imp_right (fun hx => qc_aload_n (qc_at qkX12_run 15 rfl) rfl <| qc_iconst (qc_at qkX12_run 16 rfl) <| hx) (qd_pI (qc_at qkX12_run 17 rfl) hn rfl rfl ?_)
    refine And.imp_right (fun hx => qc_aload_n (qc_at qkX12_run 18 rfl) rfl <| qc_iconst (qc_at qkX12_run 19 rfl) <| hx) (qd_pI (qc_at qkX12_run 20 rfl) hn rfl rfl ?_)
    refine And.imp_right (fun hx => qc_aload_n (qc_at qkX12_run 21 rfl) rfl <| qc_lconst (qc_at qkX12_run 22 rfl) <| hx) (qd_pL (qc_at qkX12_run 23 rfl) hn rfl rfl ?_)
    refine And.imp_right (fun hx => qc_aload_n (qc_at qkX12_run 24 rfl) rfl <| qc_iconst (qc_at qkX12_run 25 rfl) <| hx) (qd_pI (qc_at qkX12_run 26 rfl) hn rfl rfl ?_)
    refine And.imp_right (fun hx => qc_aload_n (qc_at qkX12_run 27 rfl) rfl <| qc_iconst (qc_at qkX12_run 28 rfl) <| hx) (qd_pI (qc_at qkX12_run 29 rfl) hn rfl rfl ?_)
    refine And.imp_right (fun hx => qc_aload_n (qc_at qkX12_run 30 rfl) rfl <| qc_gR (qc_at qkX12_run 31 rfl) hn rfl (qfr_291_44 (c30.1.1 hR)) rfl <| qc_iload_n (qc_at qkX12_run 32 rfl) rfl <| hx) ?_
    obtain ⟨g32, h⟩ := qc_gd_of h
    refine And.imp_right (fun hx => qc_iald 12 (qc_at qkX12_run 33 rfl) hn rfl (qc_inb_in g32) <| qc_istore_n (lv' := [(2, _), (0, _), (1, _)]) (qc_at qkX12_run 34 rfl) rfl rfl <| qc_aload_n (qc_at qkX12_run 35 rfl) rfl <| qc_iload_n (qc_at qkX12_run 36 rfl) rfl <| qc_iconst (qc_at qkX12_run 37 rfl) <| hx) ?_
    refine qc_andN (qc_icmp_ne (qc_at qkX12_run 38 rfl)) (fun u33 => ?_) (fun u33 => ?_)
    · replace h := qc_jn u33 h
      exact And.imp_right (fun hx => qc_iconst (qc_at qkX12_run 41 rfl) <| qc_sub [1, 2, 0] rfl hx) (tX12_run_b68 hn (c30.1.1 hR) h)
    · replace h := qc_jp u33 h
      exact And.imp_right (fun hx => qc_iconst (qc_at qkX12_run 39 rfl) <| qc_goto (qc_at qkX12_run 40 rfl) <| qc_sub [1, 2, 0] rfl hx) (tX12_run_b68 hn (c30.1.1 hR) h)
  · replace h := qc_jf u31 h
    obtain ⟨rfl, rfl, rfl, rfl, rfl⟩ := qc_some5 h
    exact ⟨qc_fm.rf _, qc_iconst (qc_at qkX12_run 4 rfl) <| qc_iret (qc_at qkX12_run 5 rfl) rfl (Nat.le_refl _) (Nat.le_refl _) (qc_eq.rf _ _ _)⟩
def fX12_told (w : qcW) (I : qTI) (L : qTL) (D : qTD) (R : qTR) (x1 : Int32) : qcO Int32 :=
  (if x1 = 0 then (some ((I 291 78), I, L, D, R)) else if x1 = 1 then (some ((I 291 79), I, L, D, R)) else if x1 = 2 then (some ((I 291 80), I, L, D, R)) else if x1 = 3 then (some ((Int64.toInt32 (L 291 70)), I, L, D, R)) else if x1 = 4 then (some ((I 291 81), I, L, D, R)) else if x1 = 5 then (some ((I 291 77), I, L, D, R)) else (some ((-2 : Int32), I, L, D, R)))
set_option maxRecDepth 100000 in
set_option maxHeartbeats 4000000 in
theorem tX12_told {w : qcW} {I : qTI} {L : qTL} {D : qTD} {R : qTR} {x1 : Int32} {r : Int32} {I' : qTI} {L' : qTL} {D' : qTD} {R' : qTR} (hn : qcNF ≤ w.1) (hR : qc_FR R) (h : fX12_told w I L D R x1 = some (r, I', L', D', R')) : qc_fm qcSM (I, L, D, R) (I', L', D', R') ∧ qc_V (0) 0 0 qmX12_told [.ref 291, .int x1] w (I, L, D, R) (qc_eq (some (.int r)) w (I', L', D', R')) := by
  unfold fX12_told at h
  refine And.imp_right (fun hx => qc_V.of rfl rfl (Nat.le_of_ble_eq_true rfl) (lv := [(0, .ref 291), (1, .int x1)]) rfl hx) ?_
  refine And.imp_right (fun hx => qc_iload_n (qc_at qkX12_told 0 rfl) rfl <| hx) ?_
  refine qc_by (c := x1 = 0) (fun u1 => ?_) (fun u1 => ?_)
  · refine And.imp_right (fun hx => qc_tabIn (qc_at qkX12_told 1 rfl) 0 (by rw [u1]; rfl) (by decide) rfl rfl hx) ?_
    replace h := qc_jp u1 h
    obtain ⟨rfl, rfl, rfl, rfl, rfl⟩ := qc_some5 h
    exact ⟨qc_fm.rf _, qc_aload_n (qc_at qkX12_told 2 rfl) rfl <| qc_gI (qc_at qkX12_told 3 rfl) hn rfl <| qc_iret (qc_at qkX12_told 4 rfl) rfl (Nat.le_refl _) (Nat.le_refl _) (qc_eq.rf _ _ _)⟩
  · replace h := qc_jn u1 h
    refine qc_by (c := x1 = 1) (fun u2 => ?_) (fun u2 => ?_)
    · refine And.imp_right (fun hx => qc_tabIn (qc_at qkX12_told 1 rfl) 1 (by rw [u2]; rfl) (by decide) rfl rfl hx) ?_
      replace h := qc_jp u2 h
      obtain ⟨rfl, rfl, rfl, rfl, rfl⟩ := qc_some5 h
      exact ⟨qc_fm.rf _, qc_aload_n (qc_at qkX12_told 5 rfl) rfl <| qc_gI (qc_at qkX12_told 6 rfl) hn rfl <| qc_iret (qc_at qkX12_told 7 rfl) rfl (Nat.le_refl _) (Nat.le_refl _) (qc_eq.rf _ _ _)⟩
    · replace h := qc_jn u2 h
      refine qc_by (c := x1 = 2) (fun u3 => ?_) (fun u3 => ?_)
      · refine And.imp_right (fun hx => qc_tabIn (qc_at qkX12_told 1 rfl) 2 (by rw [u3]; rfl) (by decide) rfl rfl hx) ?_
        replace h := qc_jp u3 h
        obtain ⟨rfl, rfl, rfl, rfl, rfl⟩ := qc_some5 h
        exact ⟨qc_fm.rf _, qc_aload_n (qc_at qkX12_told 8 rfl) rfl <| qc_gI (qc_at qkX12_told 9 rfl) hn rfl <| qc_iret (qc_at qkX12_told 10 rfl) rfl (Nat.le_refl _) (Nat.le_refl _) (qc_eq.rf _ _ _)⟩
      · replace h := qc_jn u3 h
        refine qc_by (c := x1 = 3) (fun u4 => ?_) (fun u4 => ?_)
        · refine And.imp_right (fun hx => qc_tabIn (qc_at qkX12_told 1 rfl) 3 (by rw [u4]; rfl) (by decide) rfl rfl hx) ?_
          replace h := qc_jp u4 h
          obtain ⟨rfl, rfl, rfl, rfl, rfl⟩ := qc_some5 h
          exact ⟨qc_fm.rf _, qc_aload_n (qc_at qkX12_told 11 rfl) rfl <| qc_gL (qc_at qkX12_told 12 rfl) hn rfl <| qc_l2i (qc_at qkX12_told 13 rfl) <| qc_iret (qc_at qkX12_told 14 rfl) rfl (Nat.le_refl _) (Nat.le_refl _) (qc_eq.rf _ _ _)⟩
        · replace h := qc_jn u4 h
          refine qc_by (c := x1 = 4) (fun u5 => ?_) (fun u5 => ?_)
          · refine And.imp_right (fun hx => qc_tabIn (qc_at qkX12_told 1 rfl) 4 (by rw [u5]; rfl) (by decide) rfl rfl hx) ?_
            replace h := qc_jp u5 h
            obtain ⟨rfl, rfl, rfl, rfl, rfl⟩ := qc_some5 h
            exact ⟨qc_fm.rf _, qc_aload_n (qc_at qkX12_told 15 rfl) rfl <| qc_gI (qc_at qkX12_told 16 rfl) hn rfl <| qc_iret (qc_at qkX12_told 17 rfl) rfl (Nat.le_refl _) (Nat.le_refl _) (qc_eq.rf _ _ _)⟩
          · replace h := qc_jn u5 h
            refine qc_by (c := x1 = 5) (fun u6 => ?_) (fun u6 => ?_)
            · refine And.imp_right (fun hx => qc_tabIn (qc_at qkX12_told 1 rfl) 5 (by rw [u6]; rfl) (by decide) rfl rfl hx) ?_
              replace h := qc_jp u6 h
              obtain ⟨rfl, rfl, rfl, rfl, rfl⟩ := qc_some5 h
              exact ⟨qc_fm.rf _, qc_aload_n (qc_at qkX12_told 18 rfl) rfl <| qc_gI (qc_at qkX12_told 19 rfl) hn rfl <| qc_iret (qc_at qkX12_told 20 rfl) rfl (Nat.le_refl _) (Nat.le_refl _) (qc_eq.rf _ _ _)⟩
            · replace h := qc_jn u6 h
              have v1 : ¬ Int32.toInt x1 = 0 := fun z => u1 (qc_i32 z rfl)
              have v2 : ¬ Int32.toInt x1 = 1 := fun z => u2 (qc_i32 z rfl)
              have v3 : ¬ Int32.toInt x1 = 2 := fun z => u3 (qc_i32 z rfl)
              have v4 : ¬ Int32.toInt x1 = 3 := fun z => u4 (qc_i32 z rfl)
              have v5 : ¬ Int32.toInt x1 = 4 := fun z => u5 (qc_i32 z rfl)
              have v6 : ¬ Int32.toInt x1 = 5 := fun z => u6 (qc_i32 z rfl)
              refine And.imp_right (fun hx => qc_tabOut (qc_at qkX12_told 1 rfl) (by omega) rfl hx) ?_
              obtain ⟨rfl, rfl, rfl, rfl, rfl⟩ := qc_some5 h
              exact ⟨qc_fm.rf _, qc_bipush (qc_at qkX12_told 21 rfl) <| qc_iret (qc_at qkX12_told 22 rfl) rfl (Nat.le_refl _) (Nat.le_refl _) (qc_eq.rf _ _ _)⟩
def fX12_hit_ (w : qcW) (I : qTI) (L : qTL) (D : qTD) (R : qTR) (x1 : Int32) : qcO Int32 :=
  (qc_bd (fX12_in w I L D R (Int32.toInt64 x1) (0 : Int64) (Int32.toInt64 ((I 291 81) - (1 : Int32)))) fun r1 I1 L1 D1 R1 => if r1 = true then (qc_gd (qc_inb x1 16) <| some ((I1 333 (Int32.toNatClampNeg x1)), I1, L1, D1, R1)) else (some ((-1 : Int32), I1, L1, D1, R1)))
set_option maxRecDepth 100000 in
set_option maxHeartbeats 4000000 in
theorem tX12_hit_ {w : qcW} {I : qTI} {L : qTL} {D : qTD} {R : qTR} {x1 : Int32} {r : Int32} {I' : qTI} {L' : qTL} {D' : qTD} {R' : qTR} (hn : qcNF ≤ w.1) (hR : qc_FR R) (h : fX12_hit_ w I L D R x1 = some (r, I', L', D', R')) : qc_fm qcSM (I, L, D, R) (I', L', D', R') ∧ qc_V (1) 0 0 qmX12_hit_ [.ref 291, .int x1] w (I, L, D, R) (qc_eq (some (.int r)) w (I', L', D', R')) := by
  unfold fX12_hit_ at h
  refine And.imp_right (fun hx => qc_V.of rfl rfl (Nat.le_of_ble_eq_true rfl) (lv := [(0, .ref 291), (1, .int x1)]) rfl hx) ?_
  refine And.imp_right (fun hx => qc_iload_n (qc_at qkX12_hit_ 0 rfl) rfl <| qc_i2l (qc_at qkX12_hit_ 1 rfl) <| qc_lconst (qc_at qkX12_hit_ 2 rfl) <| qc_aload_n (qc_at qkX12_hit_ 3 rfl) rfl <| qc_gI (qc_at qkX12_hit_ 4 rfl) hn rfl <| qc_iconst (qc_at qkX12_hit_ 5 rfl) <| qc_isub (qc_at qkX12_hit_ 6 rfl) <| qc_i2l (qc_at qkX12_hit_ 7 rfl) <| hx) ?_
  obtain ⟨r1, I1, L1, D1, R1, e1, h⟩ := qc_bd_of h
  have c1 := (tX12_in hn hR e1)
  refine qd_cSv (qc_at qkX12_hit_ 8 rfl) ql_12_162 qfX12_in c1 rfl rfl (Nat.le_of_ble_eq_true rfl) (qc_rml (by decide) (by decide)) ⟨Nat.zero_le _, Nat.zero_le _⟩ ?_
  refine qc_andB (qc_ifB_eq (qc_at qkX12_hit_ 9 rfl)) (fun u2 => ?_) (fun u2 => ?_)
  · replace h := qc_jf u2 h
    obtain ⟨rfl, rfl, rfl, rfl, rfl⟩ := qc_some5 h
    exact ⟨qc_fm.rf _, qc_iconst (qc_at qkX12_hit_ 15 rfl) <| qc_iret (qc_at qkX12_hit_ 16 rfl) rfl (Nat.le_refl _) (Nat.le_refl _) (qc_eq.rf _ _ _)⟩
  · replace h := qc_jt u2 h
    refine And.imp_right (fun hx => qc_aload_n (qc_at qkX12_hit_ 10 rfl) rfl <| qc_gR (qc_at qkX12_hit_ 11 rfl) hn rfl (qfr_291_83 (c1.1.1 hR)) rfl <| qc_iload_n (qc_at qkX12_hit_ 12 rfl) rfl <| hx) ?_
    obtain ⟨g3, h⟩ := qc_gd_of h
    obtain ⟨rfl, rfl, rfl, rfl, rfl⟩ := qc_some5 h
    exact ⟨qc_fm.rf _, qc_iald 16 (qc_at qkX12_hit_ 13 rfl) hn rfl (qc_inb_in g3) <| qc_goto (qc_at qkX12_hit_ 14 rfl) <| qc_iret (qc_at qkX12_hit_ 16 rfl) rfl (Nat.le_refl _) (Nat.le_refl _) (qc_eq.rf _ _ _)⟩
def fX12_score (w : qcW) (I : qTI) (L : qTL) (D : qTD) (R : qTR) (x1 : Int32) : qcO Int64 :=
  (qc_bd (fX12_in w I L D R (Int32.toInt64 x1) (0 : Int64) (Int32.toInt64 ((I 291 81) - (1 : Int32)))) fun r1 I1 L1 D1 R1 => if r1 = true then (if (I1 291 82) = 0 then (qc_gd (qc_inb x1 16) <| qc_bd (fJxe99ae_doubleToLongBits_ccdee w I1 L1 D1 R1 (D1 334 (Int32.toNatClampNeg x1))) fun r5 I5 L5 D5 R5 => some (r5, I5, L5, D5, R5)) else (qc_gd (qc_inb x1 8) <| some ((L1 335 (Int32.toNatClampNeg x1)), I1, L1, D1, R1))) else (some ((-9223372036854775808 : Int64), I1, L1, D1, R1)))
set_option maxRecDepth 100000 in
set_option maxHeartbeats 4000000 in
theorem tX12_score {w : qcW} {I : qTI} {L : qTL} {D : qTD} {R : qTR} {x1 : Int32} {r : Int64} {I' : qTI} {L' : qTL} {D' : qTD} {R' : qTR} (hn : qcNF ≤ w.1) (hR : qc_FR R) (h : fX12_score w I L D R x1 = some (r, I', L', D', R')) : qc_fm qcSM (I, L, D, R) (I', L', D', R') ∧ qc_V (2) 0 0 qmX12_score [.ref 291, .int x1] w (I, L, D, R) (qc_eq (some (.long r)) w (I', L', D', R')) := by
  unfold fX12_score at h
  refine And.imp_right (fun hx => qc_V.of rfl rfl (Nat.le_of_ble_eq_true rfl) (lv := [(0, .ref 291), (1, .int x1)]) rfl hx) ?_
  refine And.imp_right (fun hx => qc_iload_n (qc_at qkX12_score 0 rfl) rfl <| qc_i2l (qc_at qkX12_score 1 rfl) <| qc_lconst (qc_at qkX12_score 2 rfl) <| qc_aload_n (qc_at qkX12_score 3 rfl) rfl <| qc_gI (qc_at qkX12_score 4 rfl) hn rfl <| qc_iconst (qc_at qkX12_score 5 rfl) <| qc_isub (qc_at qkX12_score 6 rfl) <| qc_i2l (qc_at qkX12_score 7 rfl) <| hx) ?_
  obtain ⟨r1, I1, L1, D1, R1, e1, h⟩ := qc_bd_of h
  have c1 := (tX12_in hn hR e1)
  refine qd_cSv (qc_at qkX12_score 8 rfl) ql_12_162 qfX12_in c1 rfl rfl (Nat.le_of_ble_eq_true rfl) (qc_rml (by decide) (by decide)) ⟨Nat.zero_le _, Nat.zero_le _⟩ ?_
  refine qc_andBn (qc_ifB_ne (qc_at qkX12_score 9 rfl)) (fun u2 => ?_) (fun u2 => ?_)
  · replace h := qc_jt u2 h
    refine And.imp_right (fun hx => qc_aload_n (qc_at qkX12_score 12 rfl) rfl <| qc_gI (qc_at qkX12_score 13 rfl) hn rfl <| hx) ?_
    refine qc_andC (qc_if_eq (qc_at qkX12_score 14 rfl)) (fun u3 => ?_) (fun u3 => ?_)
    · replace h := qc_jp u3 h
      refine And.imp_right (fun hx => qc_aload_n (qc_at qkX12_score 20 rfl) rfl <| qc_gR (qc_at qkX12_score 21 rfl) hn rfl (qfr_291_84 (c1.1.1 hR)) rfl <| qc_iload_n (qc_at qkX12_score 22 rfl) rfl <| hx) ?_
      obtain ⟨g4, h⟩ := qc_gd_of h
      refine And.imp_right (fun hx => qc_dald 16 (qc_at qkX12_score 23 rfl) hn rfl (qc_inb_in g4) <| hx) ?_
      obtain ⟨r5, I5, L5, D5, R5, e5, h⟩ := qc_bd_of h
      have c5 := (tJxe99ae_doubleToLongBits_ccdee (sd := qcSM) hn (c1.1.1 hR) e5)
      refine qd_cSv (qc_at qkX12_score 24 rfl) ql_12_207 qfJxe99ae_doubleToLongBits_ccdee c5 rfl rfl (Nat.le_of_ble_eq_true rfl) (qc_rml (by decide) (by decide)) ⟨Nat.zero_le _, Nat.zero_le _⟩ ?_
      obtain ⟨rfl, rfl, rfl, rfl, rfl⟩ := qc_some5 h
      exact ⟨qc_fm.rf _, qc_lret (qc_at qkX12_score 25 rfl) rfl (Nat.le_refl _) (Nat.le_refl _) (qc_eq.rf _ _ _)⟩
    · replace h := qc_jn u3 h
      refine And.imp_right (fun hx => qc_aload_n (qc_at qkX12_score 15 rfl) rfl <| qc_gR (qc_at qkX12_score 16 rfl) hn rfl (qfr_291_85 (c1.1.1 hR)) rfl <| qc_iload_n (qc_at qkX12_score 17 rfl) rfl <| hx) ?_
      obtain ⟨g6, h⟩ := qc_gd_of h
      obtain ⟨rfl, rfl, rfl, rfl, rfl⟩ := qc_some5 h
      exact ⟨qc_fm.rf _, qc_lald 8 (qc_at qkX12_score 18 rfl) hn rfl (qc_inb_in g6) <| qc_goto (qc_at qkX12_score 19 rfl) <| qc_lret (qc_at qkX12_score 25 rfl) rfl (Nat.le_refl _) (Nat.le_refl _) (qc_eq.rf _ _ _)⟩
  · replace h := qc_jf u2 h
    obtain ⟨rfl, rfl, rfl, rfl, rfl⟩ := qc_some5 h
    exact ⟨qc_fm.rf _, qc_ldc2l (qc_at qkX12_score 10 rfl) <| qc_lret (qc_at qkX12_score 11 rfl) rfl (Nat.le_refl _) (Nat.le_refl _) (qc_eq.rf _ _ _)⟩
def fX12_value_b67 (w : qcW) (I : qTI) (L : qTL) (D : qTD) (R : qTR) (s0 : UInt64) : qcO Int64 :=
  (qc_bd (fJxe99ae_doubleToLongBits_ccdee w I L D R s0) fun r1 I1 L1 D1 R1 => some (r1, I1, L1, D1, R1))
set_option maxRecDepth 100000 in
set_option maxHeartbeats 4000000 in
theorem tX12_value_b67 {w : qcW} {I : qTI} {L : qTL} {D : qTD} {R : qTR} {s0 : UInt64} {r : Int64} {I' : qTI} {L' : qTL} {D' : qTD} {R' : qTR} (hn : qcNF ≤ w.1) (hR : qc_FR R) (h : fX12_value_b67 w I L D R s0 = some (r, I', L', D', R')) : qc_fm qcSM (I, L, D, R) (I', L', D', R') ∧ qc_X (qc_rm (2) 0 0) qmX12_value (qc_QM 0 0 (qc_eq (some (.long r)) w (I', L', D', R'))) 0 0 w (67, [], [.double s0], I, L, D, R) := by
  unfold fX12_value_b67 at h
  obtain ⟨r1, I1, L1, D1, R1, e1, h⟩ := qc_bd_of h
  have c1 := (tJxe99ae_doubleToLongBits_ccdee (sd := qcSM) hn hR e1)
  refine qd_cSv (qc_at qkX12_value 39 rfl) ql_12_207 qfJxe99ae_doubleToLongBits_ccdee c1 rfl rfl (Nat.le_of_ble_eq_true rfl) (qc_rml (by decide) (by decide)) ⟨Nat.zero_le _, Nat.zero_le _⟩ ?_
  obtain ⟨rfl, rfl, rfl, rfl, rfl⟩ := qc_some5 h
  exact ⟨qc_fm.rf _, qc_lret (qc_at qkX12_value 40 rfl) rfl (Nat.le_refl _) (Nat.le_refl _) (qc_eq.rf _ _ _)⟩
def fX12_value (w : qcW) (I : qTI) (L : qTL) (D : qTD) (R : qTR) (x1 : Int32) : qcO Int64 :=
  (if (I 291 82) = 0 then (some ((-9223372036854775808 : Int64), I, L, D, R)) else (qc_bd (fX12_in w I L D R (Int32.toInt64 x1) (0 : Int64) (Int32.toInt64 ((I 291 81) - (1 : Int32)))) fun r3 I3 L3 D3 R3 => if r3 = true then (qc_gd (qc_inb (I3 291 77) 12) <| if (I3 321 (Int32.toNatClampNeg (I3 291 77))) = (4 : Int32) then (qc_gd (qc_inb x1 16) <| if (I3 333 (Int32.toNatClampNeg x1)) = 0 then (fX12_value_b67 w I3 L3 D3 R3 (0 : UInt64)) else (qc_gd (qc_inb x1 8) <| qc_gd (qc_inb x1 16) <| qc_gd (qc_n64 (FP.ddiv (D3 337 (Int32.toNatClampNeg x1)) (FP.i2d (I3 333 (Int32.toNatClampNeg x1))))) <| fX12_value_b67 w I3 L3 D3 R3 (FP.ddiv (D3 337 (Int32.toNatClampNeg x1)) (FP.i2d (I3 333 (Int32.toNatClampNeg x1)))))) else (if (3 : Int32) ≤ (I3 291 88) then (if (I3 291 88) = (3 : Int32) then (qc_gd (qc_inb x1 8) <| qc_gd (qc_n32 (FP.d2f (D3 337 (Int32.toNatClampNeg x1)))) <| qc_bd (fJxf58ca_floatToIntBits_5c35a w I3 L3 D3 R3 (FP.d2f (D3 337 (Int32.toNatClampNeg x1)))) fun r13 I13 L13 D13 R13 => some ((Int32.toInt64 r13), I13, L13, D13, R13)) else (qc_gd (qc_inb x1 8) <| qc_bd (fJxe99ae_doubleToLongBits_ccdee w I3 L3 D3 R3 (D3 337 (Int32.toNatClampNeg x1))) fun r10 I10 L10 D10 R10 => some (r10, I10, L10, D10, R10))) else (qc_gd (qc_inb x1 8) <| some ((L3 336 (Int32.toNatClampNeg x1)), I3, L3, D3, R3)))) else (some ((-9223372036854775808 : Int64), I3, L3, D3, R3))))
set_option maxRecDepth 100000 in
set_option maxHeartbeats 4000000 in
theorem tX12_value {w : qcW} {I : qTI} {L : qTL} {D : qTD} {R : qTR} {x1 : Int32} {r : Int64} {I' : qTI} {L' : qTL} {D' : qTD} {R' : qTR} (hn : qcNF ≤ w.1) (hR : qc_FR R) (h : fX12_value w I L D R x1 = some (r, I', L', D', R')) : qc_fm qcSM (I, L, D, R) (I', L', D', R') ∧ qc_V (2) 0 0 qmX12_value [.ref 291, .int x1] w (I, L, D, R) (qc_eq (some (.long r)) w (I', L', D', R')) := by
  unfold fX12_value at h
  refine And.imp_right (fun hx => qc_V.of rfl rfl (Nat.le_of_ble_eq_true rfl) (lv := [(0, .ref 291), (1, .int x1)]) rfl hx) ?_
  refine And.imp_right (fun hx => qc_aload_n (qc_at qkX12_value 0 rfl) rfl <| qc_gI (qc_at qkX12_value 1 rfl) hn rfl <| hx) ?_
  refine qc_andC (qc_if_eq (qc_at qkX12_value 2 rfl)) (fun u2 => ?_) (fun u2 => ?_)
  · replace h := qc_jp u2 h
    obtain ⟨rfl, rfl, rfl, rfl, rfl⟩ := qc_some5 h
    exact ⟨qc_fm.rf _, qc_ldc2l (qc_at qkX12_value 13 rfl) <| qc_lret (qc_at qkX12_value 14 rfl) rfl (Nat.le_refl _) (Nat.le_refl _) (qc_eq.rf _ _ _)⟩
  · replace h := qc_jn u2 h
    refine And.imp_right (fun hx => qc_iload_n (qc_at qkX12_value 3 rfl) rfl <| qc_i2l (qc_at qkX12_value 4 rfl) <| qc_lconst (qc_at qkX12_value 5 rfl) <| qc_aload_n (qc_at qkX12_value 6 rfl) rfl <| qc_gI (qc_at qkX12_value 7 rfl) hn rfl <| qc_iconst (qc_at qkX12_value 8 rfl) <| qc_isub (qc_at qkX12_value 9 rfl) <| qc_i2l (qc_at qkX12_value 10 rfl) <| hx) ?_
    obtain ⟨r3, I3, L3, D3, R3, e3, h⟩ := qc_bd_of h
    have c3 := (tX12_in hn hR e3)
    refine qd_cSv (qc_at qkX12_value 11 rfl) ql_12_162 qfX12_in c3 rfl rfl (Nat.le_of_ble_eq_true rfl) (qc_rml (by decide) (by decide)) ⟨Nat.zero_le _, Nat.zero_le _⟩ ?_
    refine qc_andBn (qc_ifB_ne (qc_at qkX12_value 12 rfl)) (fun u4 => ?_) (fun u4 => ?_)
    · replace h := qc_jt u4 h
      refine And.imp_right (fun hx => qc_aload_n (qc_at qkX12_value 15 rfl) rfl <| qc_gR (qc_at qkX12_value 16 rfl) hn rfl (qfr_291_47 (c3.1.1 hR)) rfl <| qc_aload_n (qc_at qkX12_value 17 rfl) rfl <| qc_gI (qc_at qkX12_value 18 rfl) hn rfl <| hx) ?_
      obtain ⟨g5, h⟩ := qc_gd_of h
      refine And.imp_right (fun hx => qc_iald 12 (qc_at qkX12_value 19 rfl) hn rfl (qc_inb_in g5) <| qc_iconst (qc_at qkX12_value 20 rfl) <| hx) ?_
      refine qc_andN (qc_icmp_ne (qc_at qkX12_value 21 rfl)) (fun u6 => ?_) (fun u6 => ?_)
      · replace h := qc_jn u6 h
        refine And.imp_right (fun hx => qc_aload_n (qc_at qkX12_value 41 rfl) rfl <| qc_gI (qc_at qkX12_value 42 rfl) hn rfl <| qc_iconst (qc_at qkX12_value 43 rfl) <| hx) ?_
        refine qc_andC (qc_icmp_ge (qc_at qkX12_value 44 rfl)) (fun u7 => ?_) (fun u7 => ?_)
        · replace h := qc_jp u7 h
          refine And.imp_right (fun hx => qc_aload_n (qc_at qkX12_value 50 rfl) rfl <| qc_gI (qc_at qkX12_value 51 rfl) hn rfl <| qc_iconst (qc_at qkX12_value 52 rfl) <| hx) ?_
          refine qc_andN (qc_icmp_ne (qc_at qkX12_value 53 rfl)) (fun u8 => ?_) (fun u8 => ?_)
          · replace h := qc_jn u8 h
            refine And.imp_right (fun hx => qc_aload_n (qc_at qkX12_value 62 rfl) rfl <| qc_gR (qc_at qkX12_value 63 rfl) hn rfl (qfr_291_87 (c3.1.1 hR)) rfl <| qc_iload_n (qc_at qkX12_value 64 rfl) rfl <| hx) ?_
            obtain ⟨g9, h⟩ := qc_gd_of h
            refine And.imp_right (fun hx => qc_dald 8 (qc_at qkX12_value 65 rfl) hn rfl (qc_inb_in g9) <| hx) ?_
            obtain ⟨r10, I10, L10, D10, R10, e10, h⟩ := qc_bd_of h
            have c10 := (tJxe99ae_doubleToLongBits_ccdee (sd := qcSM) hn (c3.1.1 hR) e10)
            refine qd_cSv (qc_at qkX12_value 66 rfl) ql_12_207 qfJxe99ae_doubleToLongBits_ccdee c10 rfl rfl (Nat.le_of_ble_eq_true rfl) (qc_rml (by decide) (by decide)) ⟨Nat.zero_le _, Nat.zero_le _⟩ ?_
            obtain ⟨rfl, rfl, rfl, rfl, rfl⟩ := qc_some5 h
            exact ⟨qc_fm.rf _, qc_lret (qc_at qkX12_value 67 rfl) rfl (Nat.le_refl _) (Nat.le_refl _) (qc_eq.rf _ _ _)⟩
          · replace h := qc_jp u8 h
            refine And.imp_right (fun hx => qc_aload_n (qc_at qkX12_value 54 rfl) rfl <| qc_gR (qc_at qkX12_value 55 rfl) hn rfl (qfr_291_87 (c3.1.1 hR)) rfl <| qc_iload_n (qc_at qkX12_value 56 rfl) rfl <| hx) ?_
            obtain ⟨g11, h⟩ := qc_gd_of h
            refine And.imp_right (fun hx => qc_dald 8 (qc_at qkX12_value 57 rfl) hn rfl (qc_inb_in g11) <| hx) ?_
            obtain ⟨g12, h⟩ := qc_gd_of h
            replace g12 := qc_n32_of g12
            refine And.imp_right (fun hx => qc_d2f (qc_at qkX12_value 58 rfl) g12 <| hx) ?_
            obtain ⟨r13, I13, L13, D13, R13, e13, h⟩ := qc_bd_of h
            have c13 := (tJxf58ca_floatToIntBits_5c35a (sd := qcSM) hn (c3.1.1 hR) e13)
            refine qd_cSv (qc_at qkX12_value 59 rfl) ql_12_203 qfJxf58ca_floatToIntBits_5c35a c13 rfl rfl (Nat.le_of_ble_eq_true rfl) (qc_rml (by decide) (by decide)) ⟨Nat.zero_le _, Nat.zero_le _⟩ ?_
            obtain ⟨rfl, rfl, rfl, rfl, rfl⟩ := qc_some5 h
            exact ⟨qc_fm.rf _, qc_i2l (qc_at qkX12_value 60 rfl) <| qc_goto (qc_at qkX12_value 61 rfl) <| qc_lret (qc_at qkX12_value 67 rfl) rfl (Nat.le_refl _) (Nat.le_refl _) (qc_eq.rf _ _ _)⟩
        · replace h := qc_jn u7 h
          refine And.imp_right (fun hx => qc_aload_n (qc_at qkX12_value 45 rfl) rfl <| qc_gR (qc_at qkX12_value 46 rfl) hn rfl (qfr_291_86 (c3.1.1 hR)) rfl <| qc_iload_n (qc_at qkX12_value 47 rfl) rfl <| hx) ?_
          obtain ⟨g14, h⟩ := qc_gd_of h
          obtain ⟨rfl, rfl, rfl, rfl, rfl⟩ := qc_some5 h
          exact ⟨qc_fm.rf _, qc_lald 8 (qc_at qkX12_value 48 rfl) hn rfl (qc_inb_in g14) <| qc_goto (qc_at qkX12_value 49 rfl) <| qc_lret (qc_at qkX12_value 67 rfl) rfl (Nat.le_refl _) (Nat.le_refl _) (qc_eq.rf _ _ _)⟩
      · replace h := qc_jp u6 h
        refine And.imp_right (fun hx => qc_aload_n (qc_at qkX12_value 22 rfl) rfl <| qc_gR (qc_at qkX12_value 23 rfl) hn rfl (qfr_291_83 (c3.1.1 hR)) rfl <| qc_iload_n (qc_at qkX12_value 24 rfl) rfl <| hx) ?_
        obtain ⟨g15, h⟩ := qc_gd_of h
        refine And.imp_right (fun hx => qc_iald 16 (qc_at qkX12_value 25 rfl) hn rfl (qc_inb_in g15) <| hx) ?_
        refine qc_andN (qc_if_ne (qc_at qkX12_value 26 rfl)) (fun u16 => ?_) (fun u16 => ?_)
        · replace h := qc_jn u16 h
          refine And.imp_right (fun hx => qc_aload_n (qc_at qkX12_value 29 rfl) rfl <| qc_gR (qc_at qkX12_value 30 rfl) hn rfl (qfr_291_87 (c3.1.1 hR)) rfl <| qc_iload_n (qc_at qkX12_value 31 rfl) rfl <| hx) ?_
          obtain ⟨g17, h⟩ := qc_gd_of h
          refine And.imp_right (fun hx => qc_dald 8 (qc_at qkX12_value 32 rfl) hn rfl (qc_inb_in g17) <| qc_aload_n (qc_at qkX12_value 33 rfl) rfl <| qc_gR (qc_at qkX12_value 34 rfl) hn rfl (qfr_291_83 (c3.1.1 hR)) rfl <| qc_iload_n (qc_at qkX12_value 35 rfl) rfl <| hx) ?_
          obtain ⟨g18, h⟩ := qc_gd_of h
          refine And.imp_right (fun hx => qc_iald 16 (qc_at qkX12_value 36 rfl) hn rfl (qc_inb_in g18) <| qc_i2d (qc_at qkX12_value 37 rfl) <| hx) ?_
          obtain ⟨g19, h⟩ := qc_gd_of h
          replace g19 := qc_n64_of g19
          exact And.imp_right (fun hx => qc_ddiv (qc_at qkX12_value 38 rfl) g19 <| qc_sub [] rfl hx) (tX12_value_b67 hn (c3.1.1 hR) h)
        · replace h := qc_jp u16 h
          exact And.imp_right (fun hx => qc_dconst (qc_at qkX12_value 27 rfl) <| qc_goto (qc_at qkX12_value 28 rfl) <| qc_sub [] rfl hx) (tX12_value_b67 hn (c3.1.1 hR) h)
    · replace h := qc_jf u4 h
      obtain ⟨rfl, rfl, rfl, rfl, rfl⟩ := qc_some5 h
      exact ⟨qc_fm.rf _, qc_ldc2l (qc_at qkX12_value 13 rfl) <| qc_lret (qc_at qkX12_value 14 rfl) rfl (Nat.le_refl _) (Nat.le_refl _) (qc_eq.rf _ _ _)⟩
def fX12_count_b31 (w : qcW) (k9 : qTI × qTL × qTD × qTR × Int32 × Int32 → qcO Int32) (I : qTI) (L : qTL) (D : qTD) (R : qTR) (x3 : Int32) (s0 : Int32) (s1 : Int32) : qcO Int32 :=
  (k9 (I, L, D, R, (s1 + s0), (x3 + (1))))
set_option maxRecDepth 100000 in
set_option maxHeartbeats 4000000 in
theorem tX12_count_b31 {w : qcW} {I : qTI} {L : qTL} {D : qTD} {R : qTR} {k9 : qTI × qTL × qTD × qTR × Int32 × Int32 → qcO Int32} {x3 : Int32} {s0 : Int32} {s1 : Int32} {r : Int32} {I' : qTI} {L' : qTL} {D' : qTD} {R' : qTR} (hn : qcNF ≤ w.1) (hR : qc_FR R) (hk9 : ∀ {I : qTI} {L : qTL} {D : qTD} {R : qTR} {x2 : Int32} {x3 : Int32} {r : Int32} {I' : qTI} {L' : qTL} {D' : qTD} {R' : qTR}, qc_FR R → k9 (I, L, D, R, x2, x3) = some (r, I', L', D', R') → qc_fm qcSM (I, L, D, R) (I', L', D', R') ∧ qc_X (qc_rm (0) 0 0) qmX12_count (qc_QM 0 0 (qc_eq (some (.int r)) w (I', L', D', R'))) 0 0 w (9, [(0, .ref 291), (2, .int x2), (3, .int x3)], [], I, L, D, R)) (h : fX12_count_b31 w k9 I L D R x3 s0 s1 = some (r, I', L', D', R')) : qc_fm qcSM (I, L, D, R) (I', L', D', R') ∧ qc_X (qc_rm (0) 0 0) qmX12_count (qc_QM 0 0 (qc_eq (some (.int r)) w (I', L', D', R'))) 0 0 w (31, [(0, .ref 291), (3, .int x3)], [.int s0, .int s1], I, L, D, R) := by
  unfold fX12_count_b31 at h
  exact And.imp_right (fun hx => qc_iadd (qc_at qkX12_count 20 rfl) <| qc_istore_n (lv' := [(2, _), (0, _), (3, _)]) (qc_at qkX12_count 21 rfl) rfl rfl <| qc_iinc (lv' := [(3, _), (2, _), (0, _)]) (qc_at qkX12_count 22 rfl) rfl rfl rfl <| qc_goto (qc_at qkX12_count 23 rfl) <| qc_sub [2, 1, 0] rfl hx) (hk9 hR h)
def fX12_count_b9 (w : qcW) (k9 : qTI × qTL × qTD × qTR × Int32 × Int32 → qcO Int32) (I : qTI) (L : qTL) (D : qTD) (R : qTR) (x2 : Int32) (x3 : Int32) : qcO Int32 :=
  (if (10 : Int32) ≤ x3 then (some (x2, I, L, D, R)) else (qc_gd (qc_inb x3 10) <| if (I 292 (Int32.toNatClampNeg x3)) = (-1 : Int32) then (fX12_count_b31 w k9 I L D R x3 (0 : Int32) x2) else (fX12_count_b31 w k9 I L D R x3 (1 : Int32) x2)))
set_option maxRecDepth 100000 in
set_option maxHeartbeats 4000000 in
theorem tX12_count_b9 {w : qcW} {I : qTI} {L : qTL} {D : qTD} {R : qTR} {k9 : qTI × qTL × qTD × qTR × Int32 × Int32 → qcO Int32} {x2 : Int32} {x3 : Int32} {r : Int32} {I' : qTI} {L' : qTL} {D' : qTD} {R' : qTR} (hn : qcNF ≤ w.1) (hR : qc_FR R) (hk9 : ∀ {I : qTI} {L : qTL} {D : qTD} {R : qTR} {x2 : Int32} {x3 : Int32} {r : Int32} {I' : qTI} {L' : qTL} {D' : qTD} {R' : qTR}, qc_FR R → k9 (I, L, D, R, x2, x3) = some (r, I', L', D', R') → qc_fm qcSM (I, L, D, R) (I', L', D', R') ∧ qc_X (qc_rm (0) 0 0) qmX12_count (qc_QM 0 0 (qc_eq (some (.int r)) w (I', L', D', R'))) 0 0 w (9, [(0, .ref 291), (2, .int x2), (3, .int x3)], [], I, L, D, R)) (h : fX12_count_b9 w k9 I L D R x2 x3 = some (r, I', L', D', R')) : qc_fm qcSM (I, L, D, R) (I', L', D', R') ∧ qc_X (qc_rm (0) 0 0) qmX12_count (qc_QM 0 0 (qc_eq (some (.int r)) w (I', L', D', R'))) 0 0 w (9, [(0, .ref 291), (2, .int x2), (3, .int x3)], [], I, L, D, R) := by
  unfold fX12_count_b9 at h
  refine And.imp_right (fun hx => qc_iload_n (qc_at qkX12_count 7 rfl) rfl <| qc_bipush (qc_at qkX12_count 8 rfl) <| hx) ?_
  refine qc_andC (qc_icmp_ge (qc_at qkX12_count 9 rfl)) (fun u1 => ?_) (fun u1 => ?_)
  · replace h := qc_jp u1 h
    obtain ⟨rfl, rfl, rfl, rfl, rfl⟩ := qc_some5 h
    exact ⟨qc_fm.rf _, qc_iload_n (qc_at qkX12_count 24 rfl) rfl <| qc_iret (qc_at qkX12_count 25 rfl) rfl (Nat.le_refl _) (Nat.le_refl _) (qc_eq.rf _ _ _)⟩
  · replace h := qc_jn u1 h
    refine And.imp_right (fun hx => qc_iload_n (qc_at qkX12_count 10 rfl) rfl <| qc_aload_n (qc_at qkX12_count 11 rfl) rfl <| qc_gR (qc_at qkX12_count 12 rfl) hn rfl (qfr_291_1 hR) rfl <| qc_iload_n (qc_at qkX12_count 13 rfl) rfl <| hx) ?_
    obtain ⟨g2, h⟩ := qc_gd_of h
    refine And.imp_right (fun hx => qc_iald 10 (qc_at qkX12_count 14 rfl) hn rfl (qc_inb_in g2) <| qc_iconst (qc_at qkX12_count 15 rfl) <| hx) ?_
    refine qc_andN (qc_icmp_ne (qc_at qkX12_count 16 rfl)) (fun u3 => ?_) (fun u3 => ?_)
    · replace h := qc_jn u3 h
      exact And.imp_right (fun hx => qc_iconst (qc_at qkX12_count 19 rfl) <| qc_sub [0, 2] rfl hx) (tX12_count_b31 hn hR hk9 h)
    · replace h := qc_jp u3 h
      exact And.imp_right (fun hx => qc_iconst (qc_at qkX12_count 17 rfl) <| qc_goto (qc_at qkX12_count 18 rfl) <| qc_sub [0, 2] rfl hx) (tX12_count_b31 hn hR hk9 h)
def fX12_count_l9 (w : qcW) : Nat → qTI × qTL × qTD × qTR × Int32 × Int32 → qcO Int32 := qc_lp (fun k q => match q with | (I, L, D, R, x2, x3) => fX12_count_b9 w k I L D R x2 x3)
set_option maxRecDepth 100000 in
set_option maxHeartbeats 4000000 in
theorem tX12_count_l9 {w : qcW} (hn : qcNF ≤ w.1) : ∀ (n : Nat) {r : Int32} {I' : qTI} {L' : qTL} {D' : qTD} {R' : qTR} {I : qTI} {L : qTL} {D : qTD} {R : qTR} {x2 : Int32} {x3 : Int32} (hR : qc_FR R) (h : fX12_count_l9 w n (I, L, D, R, x2, x3) = some (r, I', L', D', R')), qc_fm qcSM (I, L, D, R) (I', L', D', R') ∧ qc_X (qc_rm (0) 0 0) qmX12_count (qc_QM 0 0 (qc_eq (some (.int r)) w (I', L', D', R'))) 0 0 w (9, [(0, .ref 291), (2, .int x2), (3, .int x3)], [], I, L, D, R) := by
  intro n
  induction n with
  | zero => intro _ _ _ _ _ _ _ _ _ _ _ _ h; cases h
  | succ n ih => intro _ _ _ _ _ _ _ _ _ _ _ hR h; exact tX12_count_b9 hn hR (k9 := fX12_count_l9 w n) (fun hR h => ih hR h) h
def fX12_count (w : qcW) (I : qTI) (L : qTL) (D : qTD) (R : qTR) (x1 : Int32) : qcO Int32 :=
  (if x1 = (1 : Int32) then (fX12_count_l9 w qcF (I, L, D, R, (0 : Int32), (0 : Int32))) else (if x1 = 0 then (some ((I 291 0), I, L, D, R)) else (if x1 = (2 : Int32) then (some ((I 291 40), I, L, D, R)) else (if x1 = (3 : Int32) then (some ((I 291 7), I, L, D, R)) else (some ((-1 : Int32), I, L, D, R))))))
set_option maxRecDepth 100000 in
set_option maxHeartbeats 4000000 in
theorem tX12_count {w : qcW} {I : qTI} {L : qTL} {D : qTD} {R : qTR} {x1 : Int32} {r : Int32} {I' : qTI} {L' : qTL} {D' : qTD} {R' : qTR} (hn : qcNF ≤ w.1) (hR : qc_FR R) (h : fX12_count w I L D R x1 = some (r, I', L', D', R')) : qc_fm qcSM (I, L, D, R) (I', L', D', R') ∧ qc_V (0) 0 0 qmX12_count [.ref 291, .int x1] w (I, L, D, R) (qc_eq (some (.int r)) w (I', L', D', R')) := by
  unfold fX12_count at h
  refine And.imp_right (fun hx => qc_V.of rfl rfl (Nat.le_of_ble_eq_true rfl) (lv := [(0, .ref 291), (1, .int x1)]) rfl hx) ?_
  refine And.imp_right (fun hx => qc_iload_n (qc_at qkX12_count 0 rfl) rfl <| qc_iconst (qc_at qkX12_count 1 rfl) <| hx) ?_
  refine qc_andN (qc_icmp_ne (qc_at qkX12_count 2 rfl)) (fun u4 => ?_) (fun u4 => ?_)
  · replace h := qc_jn u4 h
    refine And.imp_right (fun hx => qc_iload_n (qc_at qkX12_count 26 rfl) rfl <| hx) ?_
    refine qc_andN (qc_if_ne (qc_at qkX12_count 27 rfl)) (fun u5 => ?_) (fun u5 => ?_)
    · replace h := qc_jn u5 h
      refine And.imp_right (fun hx => qc_iload_n (qc_at qkX12_count 31 rfl) rfl <| qc_iconst (qc_at qkX12_count 32 rfl) <| hx) ?_
      refine qc_andN (qc_icmp_ne (qc_at qkX12_count 33 rfl)) (fun u6 => ?_) (fun u6 => ?_)
      · replace h := qc_jn u6 h
        refine And.imp_right (fun hx => qc_iload_n (qc_at qkX12_count 37 rfl) rfl <| qc_iconst (qc_at qkX12_count 38 rfl) <| hx) ?_
        refine qc_andN (qc_icmp_ne (qc_at qkX12_count 39 rfl)) (fun u7 => ?_) (fun u7 => ?_)
        · replace h := qc_jn u7 h
          obtain ⟨rfl, rfl, rfl, rfl, rfl⟩ := qc_some5 h
          exact ⟨qc_fm.rf _, qc_iconst (qc_at qkX12_count 43 rfl) <| qc_iret (qc_at qkX12_count 44 rfl) rfl (Nat.le_refl _) (Nat.le_refl _) (qc_eq.rf _ _ _)⟩
        · replace h := qc_jp u7 h
          obtain ⟨rfl, rfl, rfl, rfl, rfl⟩ := qc_some5 h
          exact ⟨qc_fm.rf _, qc_aload_n (qc_at qkX12_count 40 rfl) rfl <| qc_gI (qc_at qkX12_count 41 rfl) hn rfl <| qc_goto (qc_at qkX12_count 42 rfl) <| qc_iret (qc_at qkX12_count 44 rfl) rfl (Nat.le_refl _) (Nat.le_refl _) (qc_eq.rf _ _ _)⟩
      · replace h := qc_jp u6 h
        obtain ⟨rfl, rfl, rfl, rfl, rfl⟩ := qc_some5 h
        exact ⟨qc_fm.rf _, qc_aload_n (qc_at qkX12_count 34 rfl) rfl <| qc_gI (qc_at qkX12_count 35 rfl) hn rfl <| qc_goto (qc_at qkX12_count 36 rfl) <| qc_iret (qc_at qkX12_count 44 rfl) rfl (Nat.le_refl _) (Nat.le_refl _) (qc_eq.rf _ _ _)⟩
    · replace h := qc_jp u5 h
      obtain ⟨rfl, rfl, rfl, rfl, rfl⟩ := qc_some5 h
      exact ⟨qc_fm.rf _, qc_aload_n (qc_at qkX12_count 28 rfl) rfl <| qc_gI (qc_at qkX12_count 29 rfl) hn rfl <| qc_goto (qc_at qkX12_count 30 rfl) <| qc_iret (qc_at qkX12_count 44 rfl) rfl (Nat.le_refl _) (Nat.le_refl _) (qc_eq.rf _ _ _)⟩
  · replace h := qc_jp u4 h
    exact And.imp_right (fun hx => qc_iconst (qc_at qkX12_count 3 rfl) <| qc_istore_n (lv' := [(2, _), (0, _), (1, _)]) (qc_at qkX12_count 4 rfl) rfl rfl <| qc_iconst (qc_at qkX12_count 5 rfl) <| qc_istore_n (lv' := [(3, _), (2, _), (0, _), (1, _)]) (qc_at qkX12_count 6 rfl) rfl rfl <| qc_sub [2, 1, 0] rfl hx) (tX12_count_l9 hn qcF hR h)
def fX12_clear (w : qcW) (I : qTI) (L : qTL) (D : qTD) (R : qTR) : qcO Int32 :=
  (some ((I 291 40), (qc_u (qc_u (qc_u (qc_u (qc_u (qc_u (qc_u I 291 40 (0 : Int32)) 291 77 (-1 : Int32)) 291 79 (-1 : Int32)) 291 80 (-1 : Int32)) 291 78 (0 : Int32)) 291 81 (0 : Int32)) 291 82 (0 : Int32)), (qc_u L 291 70 (0 : Int64)), D, R))
set_option maxRecDepth 100000 in
set_option maxHeartbeats 4000000 in
theorem tX12_clear {w : qcW} {I : qTI} {L : qTL} {D : qTD} {R : qTR} {r : Int32} {I' : qTI} {L' : qTL} {D' : qTD} {R' : qTR} (hn : qcNF ≤ w.1) (hR : qc_FR R) (h : fX12_clear w I L D R = some (r, I', L', D', R')) : qc_fm qcSM (I, L, D, R) (I', L', D', R') ∧ qc_V (0) 0 0 qmX12_clear [.ref 291] w (I, L, D, R) (qc_eq (some (.int r)) w (I', L', D', R')) := by
  unfold fX12_clear at h
  refine And.imp_right (fun hx => qc_V.of rfl rfl (Nat.le_of_ble_eq_true rfl) (lv := [(0, .ref 291)]) rfl hx) ?_
  refine And.imp_right (fun hx => qc_aload_n (qc_at qkX12_clear 0 rfl) rfl <| qc_gI (qc_at qkX12_clear 1 rfl) hn rfl <| qc_istore_n (lv' := [(1, _), (0, _)]) (qc_at qkX12_clear 2 rfl) rfl rfl <| qc_aload_n (qc_at qkX12_clear 3 rfl) rfl <| qc_iconst (qc_at qkX12_clear 4 rfl) <| hx) (qd_pI (qc_at qkX12_clear 5 rfl) hn rfl rfl ?_)
  refine And.imp_right (fun hx => qc_aload_n (qc_at qkX12_clear 6 rfl) rfl <| qc_iconst (qc_at qkX12_clear 7 rfl) <| hx) (qd_pI (qc_at qkX12_clear 8 rfl) hn rfl rfl ?_)
  refine And.imp_right (fun hx => qc_aload_n (qc_at qkX12_clear 9 rfl) rfl <| qc_iconst (qc_at qkX12_clear 10 rfl) <| hx) (qd_pI (qc_at qkX12_clear 11 rfl) hn rfl rfl ?_)
  refine And.imp_right (fun hx => qc_aload_n (qc_at qkX12_clear 12 rfl) rfl <| qc_iconst (qc_at qkX12_clear 13 rfl) <| hx) (qd_pI (qc_at qkX12_clear 14 rfl) hn rfl rfl ?_)
  refine And.imp_right (fun hx => qc_aload_n (qc_at qkX12_clear 15 rfl) rfl <| qc_iconst (qc_at qkX12_clear 16 rfl) <| hx) (qd_pI (qc_at qkX12_clear 17 rfl) hn rfl rfl ?_)
  refine And.imp_right (fun hx => qc_aload_n (qc_at qkX12_clear 18 rfl) rfl <| qc_lconst (qc_at qkX12_clear 19 rfl) <| hx) (qd_pL (qc_at qkX12_clear 20 rfl) hn rfl rfl ?_)
  refine And.imp_right (fun hx => qc_aload_n (qc_at qkX12_clear 21 rfl) rfl <| qc_iconst (qc_at qkX12_clear 22 rfl) <| hx) (qd_pI (qc_at qkX12_clear 23 rfl) hn rfl rfl ?_)
  refine And.imp_right (fun hx => qc_aload_n (qc_at qkX12_clear 24 rfl) rfl <| qc_iconst (qc_at qkX12_clear 25 rfl) <| hx) (qd_pZ (qc_at qkX12_clear 26 rfl) hn rfl (Or.inl rfl) rfl ?_)
  obtain ⟨rfl, rfl, rfl, rfl, rfl⟩ := qc_some5 h
  exact ⟨qc_fm.rf _, qc_iload_n (qc_at qkX12_clear 27 rfl) rfl <| qc_iret (qc_at qkX12_clear 28 rfl) rfl (Nat.le_refl _) (Nat.le_refl _) (qc_eq.rf _ _ _)⟩
