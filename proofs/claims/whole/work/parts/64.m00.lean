def fX12_in (w : qcW) (I : qTI) (L : qTL) (D : qTD) (R : qTR) (x0 : Int64) (x2 : Int64) (x4 : Int64) : qcO Bool :=
  (if (lg_cmp x0 x2) < 0 then (some (false, I, L, D, R)) else (if 0 < (lg_cmp x0 x4) then (some (false, I, L, D, R)) else (some (true, I, L, D, R))))
set_option maxRecDepth 100000 in
set_option maxHeartbeats 4000000 in
theorem tX12_in {w : qcW} {I : qTI} {L : qTL} {D : qTD} {R : qTR} {x0 : Int64} {x2 : Int64} {x4 : Int64} {r : Bool} {I' : qTI} {L' : qTL} {D' : qTD} {R' : qTR} (hn : qcNF ≤ w.1) (hR : qc_FR R) (h : fX12_in w I L D R x0 x2 x4 = some (r, I', L', D', R')) : qc_fm qcSM (I, L, D, R) (I', L', D', R') ∧ qc_V (0) 0 0 qmX12_in [.long x0, .long x2, .long x4] w (I, L, D, R) (qc_eq (some (.int (qc_b r))) w (I', L', D', R')) := by
  unfold fX12_in at h
  refine And.imp_right (fun hx => qc_V.of rfl rfl (Nat.le_of_ble_eq_true rfl) (lv := [(0, .long x0), (2, .long x2), (4, .long x4)]) rfl hx) ?_
  refine And.imp_right (fun hx => qc_lload_n (qc_at qkX12_in 0 rfl) rfl <| qc_lload_n (qc_at qkX12_in 1 rfl) rfl <| qc_lcmp (qc_at qkX12_in 2 rfl) <| hx) ?_
  refine qc_andC (qc_if_lt (qc_at qkX12_in 3 rfl)) (fun u1 => ?_) (fun u1 => ?_)
  · replace h := qc_jp u1 h
    obtain ⟨rfl, rfl, rfl, rfl, rfl⟩ := qc_some5 h
    exact ⟨qc_fm.rf _, qc_iconst (qc_at qkX12_in 10 rfl) <| qc_zret (qc_at qkX12_in 11 rfl) rfl (Or.inl rfl) (Nat.le_refl _) (Nat.le_refl _) ⟨rfl, rfl, rfl⟩⟩
  · replace h := qc_jn u1 h
    refine And.imp_right (fun hx => qc_lload_n (qc_at qkX12_in 4 rfl) rfl <| qc_lload (qc_at qkX12_in 5 rfl) rfl <| qc_lcmp (qc_at qkX12_in 6 rfl) <| hx) ?_
    refine qc_andC (qc_if_gt (qc_at qkX12_in 7 rfl)) (fun u2 => ?_) (fun u2 => ?_)
    · replace h := qc_jp u2 h
      obtain ⟨rfl, rfl, rfl, rfl, rfl⟩ := qc_some5 h
      exact ⟨qc_fm.rf _, qc_iconst (qc_at qkX12_in 10 rfl) <| qc_zret (qc_at qkX12_in 11 rfl) rfl (Or.inl rfl) (Nat.le_refl _) (Nat.le_refl _) ⟨rfl, rfl, rfl⟩⟩
    · replace h := qc_jn u2 h
      obtain ⟨rfl, rfl, rfl, rfl, rfl⟩ := qc_some5 h
      exact ⟨qc_fm.rf _, qc_iconst (qc_at qkX12_in 8 rfl) <| qc_goto (qc_at qkX12_in 9 rfl) <| qc_zret (qc_at qkX12_in 11 rfl) rfl (Or.inr rfl) (Nat.le_refl _) (Nat.le_refl _) ⟨rfl, rfl, rfl⟩⟩
def fX12_isColumn (w : qcW) (I : qTI) (L : qTL) (D : qTD) (R : qTR) (x0 : Int32) : qcO Bool :=
  (qc_bd (fX12_in w I L D R (Int32.toInt64 x0) (0 : Int64) (9 : Int64)) fun r1 I1 L1 D1 R1 => some (r1, I1, L1, D1, R1))
set_option maxRecDepth 100000 in
set_option maxHeartbeats 4000000 in
theorem tX12_isColumn {w : qcW} {I : qTI} {L : qTL} {D : qTD} {R : qTR} {x0 : Int32} {r : Bool} {I' : qTI} {L' : qTL} {D' : qTD} {R' : qTR} (hn : qcNF ≤ w.1) (hR : qc_FR R) (h : fX12_isColumn w I L D R x0 = some (r, I', L', D', R')) : qc_fm qcSM (I, L, D, R) (I', L', D', R') ∧ qc_V (1) 0 0 qmX12_isColumn [.int x0] w (I, L, D, R) (qc_eq (some (.int (qc_b r))) w (I', L', D', R')) := by
  unfold fX12_isColumn at h
  refine And.imp_right (fun hx => qc_V.of rfl rfl (Nat.le_of_ble_eq_true rfl) (lv := [(0, .int x0)]) rfl hx) ?_
  refine And.imp_right (fun hx => qc_iload_n (qc_at qkX12_isColumn 0 rfl) rfl <| qc_i2l (qc_at qkX12_isColumn 1 rfl) <| qc_lconst (qc_at qkX12_isColumn 2 rfl) <| qc_ldc2l (qc_at qkX12_isColumn 3 rfl) <| hx) ?_
  obtain ⟨r1, I1, L1, D1, R1, e1, h⟩ := qc_bd_of h
  have c1 := (tX12_in hn hR e1)
  refine qd_cSv (qc_at qkX12_isColumn 4 rfl) ql_12_162 qfX12_in c1 rfl rfl (Nat.le_of_ble_eq_true rfl) (qc_rml (by decide) (by decide)) ⟨Nat.zero_le _, Nat.zero_le _⟩ ?_
  obtain ⟨rfl, rfl, rfl, rfl, rfl⟩ := qc_some5 h
  exact ⟨qc_fm.rf _, qc_zret (qc_at qkX12_isColumn 5 rfl) rfl (qc_b01 _) (Nat.le_refl _) (Nat.le_refl _) (qc_eq.rf _ _ _)⟩
def fX12_objects (w : qcW) (I : qTI) (L : qTL) (D : qTD) (R : qTR) (x1 : Int32) : qcO Int32 :=
  (qc_bd (fX12_in w I L D R (Int32.toInt64 x1) (0 : Int64) (16 : Int64)) fun r1 I1 L1 D1 R1 => if r1 = true then (some ((I1 291 0), (qc_u I1 291 0 x1), L1, D1, R1)) else (some ((-1 : Int32), I1, L1, D1, R1)))
set_option maxRecDepth 100000 in
set_option maxHeartbeats 4000000 in
theorem tX12_objects {w : qcW} {I : qTI} {L : qTL} {D : qTD} {R : qTR} {x1 : Int32} {r : Int32} {I' : qTI} {L' : qTL} {D' : qTD} {R' : qTR} (hn : qcNF ≤ w.1) (hR : qc_FR R) (h : fX12_objects w I L D R x1 = some (r, I', L', D', R')) : qc_fm qcSM (I, L, D, R) (I', L', D', R') ∧ qc_V (1) 0 0 qmX12_objects [.ref 291, .int x1] w (I, L, D, R) (qc_eq (some (.int r)) w (I', L', D', R')) := by
  unfold fX12_objects at h
  refine And.imp_right (fun hx => qc_V.of rfl rfl (Nat.le_of_ble_eq_true rfl) (lv := [(0, .ref 291), (1, .int x1)]) rfl hx) ?_
  refine And.imp_right (fun hx => qc_iload_n (qc_at qkX12_objects 0 rfl) rfl <| qc_i2l (qc_at qkX12_objects 1 rfl) <| qc_lconst (qc_at qkX12_objects 2 rfl) <| qc_ldc2l (qc_at qkX12_objects 3 rfl) <| hx) ?_
  obtain ⟨r1, I1, L1, D1, R1, e1, h⟩ := qc_bd_of h
  have c1 := (tX12_in hn hR e1)
  refine qd_cSv (qc_at qkX12_objects 4 rfl) ql_12_162 qfX12_in c1 rfl rfl (Nat.le_of_ble_eq_true rfl) (qc_rml (by decide) (by decide)) ⟨Nat.zero_le _, Nat.zero_le _⟩ ?_
  refine qc_andBn (qc_ifB_ne (qc_at qkX12_objects 5 rfl)) (fun u2 => ?_) (fun u2 => ?_)
  · replace h := qc_jt u2 h
    refine And.imp_right (fun hx => qc_aload_n (qc_at qkX12_objects 8 rfl) rfl <| qc_gI (qc_at qkX12_objects 9 rfl) hn rfl <| qc_istore_n (lv' := [(2, _), (0, _), (1, _)]) (qc_at qkX12_objects 10 rfl) rfl rfl <| qc_aload_n (qc_at qkX12_objects 11 rfl) rfl <| qc_iload_n (qc_at qkX12_objects 12 rfl) rfl <| hx) (qd_pI (qc_at qkX12_objects 13 rfl) hn rfl rfl ?_)
    obtain ⟨rfl, rfl, rfl, rfl, rfl⟩ := qc_some5 h
    exact ⟨qc_fm.rf _, qc_iload_n (qc_at qkX12_objects 14 rfl) rfl <| qc_iret (qc_at qkX12_objects 15 rfl) rfl (Nat.le_refl _) (Nat.le_refl _) (qc_eq.rf _ _ _)⟩
  · replace h := qc_jf u2 h
    obtain ⟨rfl, rfl, rfl, rfl, rfl⟩ := qc_some5 h
    exact ⟨qc_fm.rf _, qc_iconst (qc_at qkX12_objects 6 rfl) <| qc_iret (qc_at qkX12_objects 7 rfl) rfl (Nat.le_refl _) (Nat.le_refl _) (qc_eq.rf _ _ _)⟩
def fX12_freeRow_b37 (w : qcW) (k4 : qTI × qTL × qTD × qTR × Int32 × Int32 → qcO Int32) (k12 : qTI × qTL × qTD × qTR × Int32 × Int32 × Int32 → qcO Int32) (I : qTI) (L : qTL) (D : qTD) (R : qTR) (x1 : Int32) (x3 : Int32) (s0 : Int32) : qcO Int32 :=
  (k12 (I, L, D, R, x1, s0, (x3 + (1))))
set_option maxRecDepth 100000 in
set_option maxHeartbeats 4000000 in
theorem tX12_freeRow_b37 {w : qcW} {I : qTI} {L : qTL} {D : qTD} {R : qTR} {k4 : qTI × qTL × qTD × qTR × Int32 × Int32 → qcO Int32} {k12 : qTI × qTL × qTD × qTR × Int32 × Int32 × Int32 → qcO Int32} {x1 : Int32} {x3 : Int32} {s0 : Int32} {r : Int32} {I' : qTI} {L' : qTL} {D' : qTD} {R' : qTR} (hn : qcNF ≤ w.1) (hR : qc_FR R) (hk4 : ∀ {I : qTI} {L : qTL} {D : qTD} {R : qTR} {x1 : Int32} {x2 : Int32} {r : Int32} {I' : qTI} {L' : qTL} {D' : qTD} {R' : qTR}, qc_FR R → k4 (I, L, D, R, x1, x2) = some (r, I', L', D', R') → qc_fm qcSM (I, L, D, R) (I', L', D', R') ∧ qc_X (qc_rm (0) 0 0) qmX12_freeRow (qc_QM 0 0 (qc_eq (some (.int r)) w (I', L', D', R'))) 0 0 w (4, [(0, .ref 291), (1, .int x1), (2, .int x2)], [], I, L, D, R)) (hk12 : ∀ {I : qTI} {L : qTL} {D : qTD} {R : qTR} {x1 : Int32} {x2 : Int32} {x3 : Int32} {r : Int32} {I' : qTI} {L' : qTL} {D' : qTD} {R' : qTR}, qc_FR R → k12 (I, L, D, R, x1, x2, x3) = some (r, I', L', D', R') → qc_fm qcSM (I, L, D, R) (I', L', D', R') ∧ qc_X (qc_rm (0) 0 0) qmX12_freeRow (qc_QM 0 0 (qc_eq (some (.int r)) w (I', L', D', R'))) 0 0 w (12, [(0, .ref 291), (1, .int x1), (2, .int x2), (3, .int x3)], [], I, L, D, R)) (h : fX12_freeRow_b37 w k4 k12 I L D R x1 x3 s0 = some (r, I', L', D', R')) : qc_fm qcSM (I, L, D, R) (I', L', D', R') ∧ qc_X (qc_rm (0) 0 0) qmX12_freeRow (qc_QM 0 0 (qc_eq (some (.int r)) w (I', L', D', R'))) 0 0 w (37, [(0, .ref 291), (1, .int x1), (3, .int x3)], [.int s0], I, L, D, R) := by
  unfold fX12_freeRow_b37 at h
  exact And.imp_right (fun hx => qc_istore_n (lv' := [(2, _), (0, _), (1, _), (3, _)]) (qc_at qkX12_freeRow 24 rfl) rfl rfl <| qc_iinc (lv' := [(3, _), (2, _), (0, _), (1, _)]) (qc_at qkX12_freeRow 25 rfl) rfl rfl rfl <| qc_goto (qc_at qkX12_freeRow 26 rfl) <| qc_sub [2, 3, 1, 0] rfl hx) (hk12 hR h)
def fX12_freeRow_b32 (w : qcW) (k4 : qTI × qTL × qTD × qTR × Int32 × Int32 → qcO Int32) (k12 : qTI × qTL × qTD × qTR × Int32 × Int32 × Int32 → qcO Int32) (I : qTI) (L : qTL) (D : qTD) (R : qTR) (x1 : Int32) (x3 : Int32) : qcO Int32 :=
  (fX12_freeRow_b37 w k4 k12 I L D R x1 x3 (1 : Int32))
set_option maxRecDepth 100000 in
set_option maxHeartbeats 4000000 in
theorem tX12_freeRow_b32 {w : qcW} {I : qTI} {L : qTL} {D : qTD} {R : qTR} {k4 : qTI × qTL × qTD × qTR × Int32 × Int32 → qcO Int32} {k12 : qTI × qTL × qTD × qTR × Int32 × Int32 × Int32 → qcO Int32} {x1 : Int32} {x3 : Int32} {r : Int32} {I' : qTI} {L' : qTL} {D' : qTD} {R' : qTR} (hn : qcNF ≤ w.1) (hR : qc_FR R) (hk4 : ∀ {I : qTI} {L : qTL} {D : qTD} {R : qTR} {x1 : Int32} {x2 : Int32} {r : Int32} {I' : qTI} {L' : qTL} {D' : qTD} {R' : qTR}, qc_FR R → k4 (I, L, D, R, x1, x2) = some (r, I', L', D', R') → qc_fm qcSM (I, L, D, R) (I', L', D', R') ∧ qc_X (qc_rm (0) 0 0) qmX12_freeRow (qc_QM 0 0 (qc_eq (some (.int r)) w (I', L', D', R'))) 0 0 w (4, [(0, .ref 291), (1, .int x1), (2, .int x2)], [], I, L, D, R)) (hk12 : ∀ {I : qTI} {L : qTL} {D : qTD} {R : qTR} {x1 : Int32} {x2 : Int32} {x3 : Int32} {r : Int32} {I' : qTI} {L' : qTL} {D' : qTD} {R' : qTR}, qc_FR R → k12 (I, L, D, R, x1, x2, x3) = some (r, I', L', D', R') → qc_fm qcSM (I, L, D, R) (I', L', D', R') ∧ qc_X (qc_rm (0) 0 0) qmX12_freeRow (qc_QM 0 0 (qc_eq (some (.int r)) w (I', L', D', R'))) 0 0 w (12, [(0, .ref 291), (1, .int x1), (2, .int x2), (3, .int x3)], [], I, L, D, R)) (h : fX12_freeRow_b32 w k4 k12 I L D R x1 x3 = some (r, I', L', D', R')) : qc_fm qcSM (I, L, D, R) (I', L', D', R') ∧ qc_X (qc_rm (0) 0 0) qmX12_freeRow (qc_QM 0 0 (qc_eq (some (.int r)) w (I', L', D', R'))) 0 0 w (32, [(0, .ref 291), (1, .int x1), (3, .int x3)], [], I, L, D, R) := by
  unfold fX12_freeRow_b32 at h
  exact And.imp_right (fun hx => qc_iconst (qc_at qkX12_freeRow 21 rfl) <| qc_goto (qc_at qkX12_freeRow 22 rfl) <| qc_sub [0, 1, 2] rfl hx) (tX12_freeRow_b37 hn hR hk4 hk12 h)
def fX12_freeRow_b54 (w : qcW) (k4 : qTI × qTL × qTD × qTR × Int32 × Int32 → qcO Int32) (I : qTI) (L : qTL) (D : qTD) (R : qTR) (x2 : Int32) (s0 : Int32) (s1 : Int32) : qcO Int32 :=
  (k4 (I, L, D, R, (s1 + s0), x2))
set_option maxRecDepth 100000 in
set_option maxHeartbeats 4000000 in
theorem tX12_freeRow_b54 {w : qcW} {I : qTI} {L : qTL} {D : qTD} {R : qTR} {k4 : qTI × qTL × qTD × qTR × Int32 × Int32 → qcO Int32} {x2 : Int32} {s0 : Int32} {s1 : Int32} {r : Int32} {I' : qTI} {L' : qTL} {D' : qTD} {R' : qTR} (hn : qcNF ≤ w.1) (hR : qc_FR R) (hk4 : ∀ {I : qTI} {L : qTL} {D : qTD} {R : qTR} {x1 : Int32} {x2 : Int32} {r : Int32} {I' : qTI} {L' : qTL} {D' : qTD} {R' : qTR}, qc_FR R → k4 (I, L, D, R, x1, x2) = some (r, I', L', D', R') → qc_fm qcSM (I, L, D, R) (I', L', D', R') ∧ qc_X (qc_rm (0) 0 0) qmX12_freeRow (qc_QM 0 0 (qc_eq (some (.int r)) w (I', L', D', R'))) 0 0 w (4, [(0, .ref 291), (1, .int x1), (2, .int x2)], [], I, L, D, R)) (h : fX12_freeRow_b54 w k4 I L D R x2 s0 s1 = some (r, I', L', D', R')) : qc_fm qcSM (I, L, D, R) (I', L', D', R') ∧ qc_X (qc_rm (0) 0 0) qmX12_freeRow (qc_QM 0 0 (qc_eq (some (.int r)) w (I', L', D', R'))) 0 0 w (54, [(0, .ref 291), (2, .int x2)], [.int s0, .int s1], I, L, D, R) := by
  unfold fX12_freeRow_b54 at h
  exact And.imp_right (fun hx => qc_iadd (qc_at qkX12_freeRow 33 rfl) <| qc_istore_n (lv' := [(1, _), (0, _), (2, _)]) (qc_at qkX12_freeRow 34 rfl) rfl rfl <| qc_goto (qc_at qkX12_freeRow 35 rfl) <| qc_sub [1, 0, 2] rfl hx) (hk4 hR h)
def fX12_freeRow_b12 (w : qcW) (k4 : qTI × qTL × qTD × qTR × Int32 × Int32 → qcO Int32) (k12 : qTI × qTL × qTD × qTR × Int32 × Int32 × Int32 → qcO Int32) (I : qTI) (L : qTL) (D : qTD) (R : qTR) (x1 : Int32) (x2 : Int32) (x3 : Int32) : qcO Int32 :=
  (if (10 : Int32) ≤ x3 then (if x2 = 0 then (fX12_freeRow_b54 w k4 I L D R x2 (0 : Int32) x1) else (fX12_freeRow_b54 w k4 I L D R x2 (1 : Int32) x1)) else (if x2 = 0 then (qc_gd (qc_inb x3 10) <| if (I 292 (Int32.toNatClampNeg x3)) = x1 then (fX12_freeRow_b32 w k4 k12 I L D R x1 x3) else (fX12_freeRow_b37 w k4 k12 I L D R x1 x3 (0 : Int32))) else (fX12_freeRow_b32 w k4 k12 I L D R x1 x3)))
set_option maxRecDepth 100000 in
set_option maxHeartbeats 4000000 in
theorem tX12_freeRow_b12 {w : qcW} {I : qTI} {L : qTL} {D : qTD} {R : qTR} {k4 : qTI × qTL × qTD × qTR × Int32 × Int32 → qcO Int32} {k12 : qTI × qTL × qTD × qTR × Int32 × Int32 × Int32 → qcO Int32} {x1 : Int32} {x2 : Int32} {x3 : Int32} {r : Int32} {I' : qTI} {L' : qTL} {D' : qTD} {R' : qTR} (hn : qcNF ≤ w.1) (hR : qc_FR R) (hk4 : ∀ {I : qTI} {L : qTL} {D : qTD} {R : qTR} {x1 : Int32} {x2 : Int32} {r : Int32} {I' : qTI} {L' : qTL} {D' : qTD} {R' : qTR}, qc_FR R → k4 (I, L, D, R, x1, x2) = some (r, I', L', D', R') → qc_fm qcSM (I, L, D, R) (I', L', D', R') ∧ qc_X (qc_rm (0) 0 0) qmX12_freeRow (qc_QM 0 0 (qc_eq (some (.int r)) w (I', L', D', R'))) 0 0 w (4, [(0, .ref 291), (1, .int x1), (2, .int x2)], [], I, L, D, R)) (hk12 : ∀ {I : qTI} {L : qTL} {D : qTD} {R : qTR} {x1 : Int32} {x2 : Int32} {x3 : Int32} {r : Int32} {I' : qTI} {L' : qTL} {D' : qTD} {R' : qTR}, qc_FR R → k12 (I, L, D, R, x1, x2, x3) = some (r, I', L', D', R') → qc_fm qcSM (I, L, D, R) (I', L', D', R') ∧ qc_X (qc_rm (0) 0 0) qmX12_freeRow (qc_QM 0 0 (qc_eq (some (.int r)) w (I', L', D', R'))) 0 0 w (12, [(0, .ref 291), (1, .int x1), (2, .int x2), (3, .int x3)], [], I, L, D, R)) (h : fX12_freeRow_b12 w k4 k12 I L D R x1 x2 x3 = some (r, I', L', D', R')) : qc_fm qcSM (I, L, D, R) (I', L', D', R') ∧ qc_X (qc_rm (0) 0 0) qmX12_freeRow (qc_QM 0 0 (qc_eq (some (.int r)) w (I', L', D', R'))) 0 0 w (12, [(0, .ref 291), (1, .int x1), (2, .int x2), (3, .int x3)], [], I, L, D, R) := by
  unfold fX12_freeRow_b12 at h
  refine And.imp_right (fun hx => qc_iload_n (qc_at qkX12_freeRow 10 rfl) rfl <| qc_bipush (qc_at qkX12_freeRow 11 rfl) <| hx) ?_
  refine qc_andC (qc_icmp_ge (qc_at qkX12_freeRow 12 rfl)) (fun u1 => ?_) (fun u1 => ?_)
  · replace h := qc_jp u1 h
    refine And.imp_right (fun hx => qc_iload_n (qc_at qkX12_freeRow 27 rfl) rfl <| qc_iload_n (qc_at qkX12_freeRow 28 rfl) rfl <| hx) ?_
    refine qc_andC (qc_if_eq (qc_at qkX12_freeRow 29 rfl)) (fun u2 => ?_) (fun u2 => ?_)
    · replace h := qc_jp u2 h
      exact And.imp_right (fun hx => qc_iconst (qc_at qkX12_freeRow 32 rfl) <| qc_sub [0, 2] rfl hx) (tX12_freeRow_b54 hn hR hk4 h)
    · replace h := qc_jn u2 h
      exact And.imp_right (fun hx => qc_iconst (qc_at qkX12_freeRow 30 rfl) <| qc_goto (qc_at qkX12_freeRow 31 rfl) <| qc_sub [0, 2] rfl hx) (tX12_freeRow_b54 hn hR hk4 h)
  · replace h := qc_jn u1 h
    refine And.imp_right (fun hx => qc_iload_n (qc_at qkX12_freeRow 13 rfl) rfl <| hx) ?_
    refine qc_andN (qc_if_ne (qc_at qkX12_freeRow 14 rfl)) (fun u3 => ?_) (fun u3 => ?_)
    · replace h := qc_jn u3 h
      exact And.imp_right (fun hx => qc_sub [0, 1, 3] rfl hx) (tX12_freeRow_b32 hn hR hk4 hk12 h)
    · replace h := qc_jp u3 h
      refine And.imp_right (fun hx => qc_aload_n (qc_at qkX12_freeRow 15 rfl) rfl <| qc_gR (qc_at qkX12_freeRow 16 rfl) hn rfl (qfr_291_1 hR) rfl <| qc_iload_n (qc_at qkX12_freeRow 17 rfl) rfl <| hx) ?_
      obtain ⟨g4, h⟩ := qc_gd_of h
      refine And.imp_right (fun hx => qc_iald 10 (qc_at qkX12_freeRow 18 rfl) hn rfl (qc_inb_in g4) <| qc_iload_n (qc_at qkX12_freeRow 19 rfl) rfl <| hx) ?_
      refine qc_andN (qc_icmp_ne (qc_at qkX12_freeRow 20 rfl)) (fun u5 => ?_) (fun u5 => ?_)
      · replace h := qc_jn u5 h
        exact And.imp_right (fun hx => qc_iconst (qc_at qkX12_freeRow 23 rfl) <| qc_sub [0, 1, 3] rfl hx) (tX12_freeRow_b37 hn hR hk4 hk12 h)
      · replace h := qc_jp u5 h
        exact And.imp_right (fun hx => qc_sub [0, 1, 3] rfl hx) (tX12_freeRow_b32 hn hR hk4 hk12 h)
def fX12_freeRow_l12 (w : qcW) (k4 : qTI × qTL × qTD × qTR × Int32 × Int32 → qcO Int32) : Nat → qTI × qTL × qTD × qTR × Int32 × Int32 × Int32 → qcO Int32 := qc_lp (fun k q => match q with | (I, L, D, R, x1, x2, x3) => fX12_freeRow_b12 w k4 k I L D R x1 x2 x3)
set_option maxRecDepth 100000 in
set_option maxHeartbeats 4000000 in
theorem tX12_freeRow_l12 {w : qcW} {k4 : qTI × qTL × qTD × qTR × Int32 × Int32 → qcO Int32} (hn : qcNF ≤ w.1) (hk4 : ∀ {I : qTI} {L : qTL} {D : qTD} {R : qTR} {x1 : Int32} {x2 : Int32} {r : Int32} {I' : qTI} {L' : qTL} {D' : qTD} {R' : qTR}, qc_FR R → k4 (I, L, D, R, x1, x2) = some (r, I', L', D', R') → qc_fm qcSM (I, L, D, R) (I', L', D', R') ∧ qc_X (qc_rm (0) 0 0) qmX12_freeRow (qc_QM 0 0 (qc_eq (some (.int r)) w (I', L', D', R'))) 0 0 w (4, [(0, .ref 291), (1, .int x1), (2, .int x2)], [], I, L, D, R)) : ∀ (n : Nat) {r : Int32} {I' : qTI} {L' : qTL} {D' : qTD} {R' : qTR} {I : qTI} {L : qTL} {D : qTD} {R : qTR} {x1 : Int32} {x2 : Int32} {x3 : Int32} (hR : qc_FR R) (h : fX12_freeRow_l12 w k4 n (I, L, D, R, x1, x2, x3) = some (r, I', L', D', R')), qc_fm qcSM (I, L, D, R) (I', L', D', R') ∧ qc_X (qc_rm (0) 0 0) qmX12_freeRow (qc_QM 0 0 (qc_eq (some (.int r)) w (I', L', D', R'))) 0 0 w (12, [(0, .ref 291), (1, .int x1), (2, .int x2), (3, .int x3)], [], I, L, D, R) := by
  intro n
  induction n with
  | zero => intro _ _ _ _ _ _ _ _ _ _ _ _ _ h; cases h
  | succ n ih => intro _ _ _ _ _ _ _ _ _ _ _ _ hR h; exact tX12_freeRow_b12 hn hR hk4 (k12 := fX12_freeRow_l12 w k4 n) (fun hR h => ih hR h) h
def fX12_freeRow_b4 (w : qcW) (k4 : qTI × qTL × qTD × qTR × Int32 × Int32 → qcO Int32) (I : qTI) (L : qTL) (D : qTD) (R : qTR) (x1 : Int32) (x2 : Int32) : qcO Int32 :=
  (if x2 = 0 then (some (x1, I, L, D, R)) else (fX12_freeRow_l12 w k4 qcF (I, L, D, R, x1, (0 : Int32), (0 : Int32))))
set_option maxRecDepth 100000 in
set_option maxHeartbeats 4000000 in
theorem tX12_freeRow_b4 {w : qcW} {I : qTI} {L : qTL} {D : qTD} {R : qTR} {k4 : qTI × qTL × qTD × qTR × Int32 × Int32 → qcO Int32} {x1 : Int32} {x2 : Int32} {r : Int32} {I' : qTI} {L' : qTL} {D' : qTD} {R' : qTR} (hn : qcNF ≤ w.1) (hR : qc_FR R) (hk4 : ∀ {I : qTI} {L : qTL} {D : qTD} {R : qTR} {x1 : Int32} {x2 : Int32} {r : Int32} {I' : qTI} {L' : qTL} {D' : qTD} {R' : qTR}, qc_FR R → k4 (I, L, D, R, x1, x2) = some (r, I', L', D', R') → qc_fm qcSM (I, L, D, R) (I', L', D', R') ∧ qc_X (qc_rm (0) 0 0) qmX12_freeRow (qc_QM 0 0 (qc_eq (some (.int r)) w (I', L', D', R'))) 0 0 w (4, [(0, .ref 291), (1, .int x1), (2, .int x2)], [], I, L, D, R)) (h : fX12_freeRow_b4 w k4 I L D R x1 x2 = some (r, I', L', D', R')) : qc_fm qcSM (I, L, D, R) (I', L', D', R') ∧ qc_X (qc_rm (0) 0 0) qmX12_freeRow (qc_QM 0 0 (qc_eq (some (.int r)) w (I', L', D', R'))) 0 0 w (4, [(0, .ref 291), (1, .int x1), (2, .int x2)], [], I, L, D, R) := by
  unfold fX12_freeRow_b4 at h
  refine And.imp_right (fun hx => qc_iload_n (qc_at qkX12_freeRow 4 rfl) rfl <| hx) ?_
  refine qc_andC (qc_if_eq (qc_at qkX12_freeRow 5 rfl)) (fun u6 => ?_) (fun u6 => ?_)
  · replace h := qc_jp u6 h
    obtain ⟨rfl, rfl, rfl, rfl, rfl⟩ := qc_some5 h
    exact ⟨qc_fm.rf _, qc_iload_n (qc_at qkX12_freeRow 36 rfl) rfl <| qc_iret (qc_at qkX12_freeRow 37 rfl) rfl (Nat.le_refl _) (Nat.le_refl _) (qc_eq.rf _ _ _)⟩
  · replace h := qc_jn u6 h
    exact And.imp_right (fun hx => qc_iconst (qc_at qkX12_freeRow 6 rfl) <| qc_istore_n (lv' := [(2, _), (0, _), (1, _)]) (qc_at qkX12_freeRow 7 rfl) rfl rfl <| qc_iconst (qc_at qkX12_freeRow 8 rfl) <| qc_istore_n (lv' := [(3, _), (2, _), (0, _), (1, _)]) (qc_at qkX12_freeRow 9 rfl) rfl rfl <| qc_sub [2, 3, 1, 0] rfl hx) (tX12_freeRow_l12 hn hk4 qcF hR h)
def fX12_freeRow_l4 (w : qcW) : Nat → qTI × qTL × qTD × qTR × Int32 × Int32 → qcO Int32 := qc_lp (fun k q => match q with | (I, L, D, R, x1, x2) => fX12_freeRow_b4 w k I L D R x1 x2)
set_option maxRecDepth 100000 in
set_option maxHeartbeats 4000000 in
theorem tX12_freeRow_l4 {w : qcW} (hn : qcNF ≤ w.1) : ∀ (n : Nat) {r : Int32} {I' : qTI} {L' : qTL} {D' : qTD} {R' : qTR} {I : qTI} {L : qTL} {D : qTD} {R : qTR} {x1 : Int32} {x2 : Int32} (hR : qc_FR R) (h : fX12_freeRow_l4 w n (I, L, D, R, x1, x2) = some (r, I', L', D', R')), qc_fm qcSM (I, L, D, R) (I', L', D', R') ∧ qc_X (qc_rm (0) 0 0) qmX12_freeRow (qc_QM 0 0 (qc_eq (some (.int r)) w (I', L', D', R'))) 0 0 w (4, [(0, .ref 291), (1, .int x1), (2, .int x2)], [], I, L, D, R) := by
  intro n
  induction n with
  | zero => intro _ _ _ _ _ _ _ _ _ _ _ _ h; cases h
  | succ n ih => intro _ _ _ _ _ _ _ _ _ _ _ hR h; exact tX12_freeRow_b4 hn hR (k4 := fX12_freeRow_l4 w n) (fun hR h => ih hR h) h
def fX12_freeRow (w : qcW) (I : qTI) (L : qTL) (D : qTD) (R : qTR) : qcO Int32 :=
  (fX12_freeRow_l4 w qcF (I, L, D, R, (0 : Int32), (1 : Int32)))
set_option maxRecDepth 100000 in
set_option maxHeartbeats 4000000 in
theorem tX12_freeRow {w : qcW} {I : qTI} {L : qTL} {D : qTD} {R : qTR} {r : Int32} {I' : qTI} {L' : qTL} {D' : qTD} {R' : qTR} (hn : qcNF ≤ w.1) (hR : qc_FR R) (h : fX12_freeRow w I L D R = some (r, I', L', D', R')) : qc_fm qcSM (I, L, D, R) (I', L', D', R') ∧ qc_V (0) 0 0 qmX12_freeRow [.ref 291] w (I, L, D, R) (qc_eq (some (.int r)) w (I', L', D', R')) := by
  unfold fX12_freeRow at h
  refine And.imp_right (fun hx => qc_V.of rfl rfl (Nat.le_of_ble_eq_true rfl) (lv := [(0, .ref 291)]) rfl hx) ?_
  exact And.imp_right (fun hx => qc_iconst (qc_at qkX12_freeRow 0 rfl) <| qc_istore_n (lv' := [(1, _), (0, _)]) (qc_at qkX12_freeRow 1 rfl) rfl rfl <| qc_iconst (qc_at qkX12_freeRow 2 rfl) <| qc_istore_n (lv' := [(2, _), (1, _), (0, _)]) (qc_at qkX12_freeRow 3 rfl) rfl rfl <| qc_sub [2, 1, 0] rfl hx) (tX12_freeRow_l4 hn qcF hR h)
def fX12_column_b62 (w : qcW) (k62 : qTI × qTL × qTD × qTR × Int32 × Int32 × Int32 → qcO Int32) (I : qTI) (L : qTL) (D : qTD) (R : qTR) (x1 : Int32) (x4 : Int32) (x5 : Int32) : qcO Int32 :=
  (if (((16 : Int32) * x4) + (16 : Int32)) ≤ x5 then (qc_gd (qc_inb x1 10) <| some ((1 : Int32), (qc_u I 292 (Int32.toNatClampNeg x1) x4), L, D, R)) else (qc_gd (qc_inb x5 176) <| qc_gd (qc_inb x5 176) <| k62 (I, (qc_u L 295 (Int32.toNatClampNeg x5) (0 : Int64)), (qc_u D 296 (Int32.toNatClampNeg x5) (0 : UInt64)), R, x1, x4, (x5 + (1)))))
set_option maxRecDepth 100000 in
set_option maxHeartbeats 4000000 in
theorem tX12_column_b62 {w : qcW} {I : qTI} {L : qTL} {D : qTD} {R : qTR} {k62 : qTI × qTL × qTD × qTR × Int32 × Int32 × Int32 → qcO Int32} {x1 : Int32} {x4 : Int32} {x5 : Int32} {r : Int32} {I' : qTI} {L' : qTL} {D' : qTD} {R' : qTR} (hn : qcNF ≤ w.1) (hR : qc_FR R) (hk62 : ∀ {I : qTI} {L : qTL} {D : qTD} {R : qTR} {x1 : Int32} {x4 : Int32} {x5 : Int32} {r : Int32} {I' : qTI} {L' : qTL} {D' : qTD} {R' : qTR}, qc_FR R → k62 (I, L, D, R, x1, x4, x5) = some (r, I', L', D', R') → qc_fm qcSM (I, L, D, R) (I', L', D', R') ∧ qc_X (qc_rm (2) 0 0) qmX12_column (qc_QM 0 0 (qc_eq (some (.int r)) w (I', L', D', R'))) 0 0 w (62, [(0, .ref 291), (1, .int x1), (4, .int x4), (5, .int x5)], [], I, L, D, R)) (h : fX12_column_b62 w k62 I L D R x1 x4 x5 = some (r, I', L', D', R')) : qc_fm qcSM (I, L, D, R) (I', L', D', R') ∧ qc_X (qc_rm (2) 0 0) qmX12_column (qc_QM 0 0 (qc_eq (some (.int r)) w (I', L', D', R'))) 0 0 w (62, [(0, .ref 291), (1, .int x1), (4, .int x4), (5, .int x5)], [], I, L, D, R) := by
  unfold fX12_column_b62 at h
  refine And.imp_right (fun hx => qc_iload (qc_at qkX12_column 34 rfl) rfl <| qc_bipush (qc_at qkX12_column 35 rfl) <| qc_iload (qc_at qkX12_column 36 rfl) rfl <| qc_imul (qc_at qkX12_column 37 rfl) <| qc_bipush (qc_at qkX12_column 38 rfl) <| qc_iadd (qc_at qkX12_column 39 rfl) <| hx) ?_
  refine qc_andC (qc_icmp_ge (qc_at qkX12_column 40 rfl)) (fun u1 => ?_) (fun u1 => ?_)
  · replace h := qc_jp u1 h
    refine And.imp_right (fun hx => qc_aload_n (qc_at qkX12_column 53 rfl) rfl <| qc_gR (qc_at qkX12_column 54 rfl) hn rfl (qfr_291_1 hR) rfl <| qc_iload_n (qc_at qkX12_column 55 rfl) rfl <| qc_iload (qc_at qkX12_column 56 rfl) rfl <| hx) ?_
    obtain ⟨g2, h⟩ := qc_gd_of h
    refine qd_iast 10 (qc_at qkX12_column 57 rfl) hn rfl (qc_inb_in g2) rfl ?_
    obtain ⟨rfl, rfl, rfl, rfl, rfl⟩ := qc_some5 h
    exact ⟨qc_fm.rf _, qc_iconst (qc_at qkX12_column 58 rfl) <| qc_iret (qc_at qkX12_column 59 rfl) rfl (Nat.le_refl _) (Nat.le_refl _) (qc_eq.rf _ _ _)⟩
  · replace h := qc_jn u1 h
    refine And.imp_right (fun hx => qc_aload_n (qc_at qkX12_column 41 rfl) rfl <| qc_gR (qc_at qkX12_column 42 rfl) hn rfl (qfr_291_4 hR) rfl <| qc_iload (qc_at qkX12_column 43 rfl) rfl <| qc_lconst (qc_at qkX12_column 44 rfl) <| hx) ?_
    obtain ⟨g3, h⟩ := qc_gd_of h
    refine qd_last 176 (qc_at qkX12_column 45 rfl) hn rfl (qc_inb_in g3) rfl ?_
    refine And.imp_right (fun hx => qc_aload_n (qc_at qkX12_column 46 rfl) rfl <| qc_gR (qc_at qkX12_column 47 rfl) hn rfl (qfr_291_5 hR) rfl <| qc_iload (qc_at qkX12_column 48 rfl) rfl <| qc_dconst (qc_at qkX12_column 49 rfl) <| hx) ?_
    obtain ⟨g4, h⟩ := qc_gd_of h
    refine qd_dast 176 (qc_at qkX12_column 50 rfl) hn rfl (qc_inb_in g4) rfl ?_
    exact And.imp_right (fun hx => qc_iinc (lv' := [(5, _), (0, _), (1, _), (4, _)]) (qc_at qkX12_column 51 rfl) rfl rfl rfl <| qc_goto (qc_at qkX12_column 52 rfl) <| qc_sub [1, 2, 3, 0] rfl hx) (hk62 hR h)
def fX12_column_l62 (w : qcW) : Nat → qTI × qTL × qTD × qTR × Int32 × Int32 × Int32 → qcO Int32 := qc_lp (fun k q => match q with | (I, L, D, R, x1, x4, x5) => fX12_column_b62 w k I L D R x1 x4 x5)
set_option maxRecDepth 100000 in
set_option maxHeartbeats 4000000 in
theorem tX12_column_l62 {w : qcW} (hn : qcNF ≤ w.1) : ∀ (n : Nat) {r : Int32} {I' : qTI} {L' : qTL} {D' : qTD} {R' : qTR} {I : qTI} {L : qTL} {D : qTD} {R : qTR} {x1 : Int32} {x4 : Int32} {x5 : Int32} (hR : qc_FR R) (h : fX12_column_l62 w n (I, L, D, R, x1, x4, x5) = some (r, I', L', D', R')), qc_fm qcSM (I, L, D, R) (I', L', D', R') ∧ qc_X (qc_rm (2) 0 0) qmX12_column (qc_QM 0 0 (qc_eq (some (.int r)) w (I', L', D', R'))) 0 0 w (62, [(0, .ref 291), (1, .int x1), (4, .int x4), (5, .int x5)], [], I, L, D, R) := by
  intro n
  induction n with
  | zero => intro _ _ _ _ _ _ _ _ _ _ _ _ _ h; cases h
  | succ n ih => intro _ _ _ _ _ _ _ _ _ _ _ _ hR h; exact tX12_column_b62 hn hR (k62 := fX12_column_l62 w n) (fun hR h => ih hR h) h
def fX12_column (w : qcW) (I : qTI) (L : qTL) (D : qTD) (R : qTR) (x1 : Int32) (x2 : Int32) (x3 : Int32) : qcO Int32 :=
  (qc_bd (fX12_isColumn w I L D R x1) fun r5 I5 L5 D5 R5 => if r5 = true then (qc_bd (fX12_in w I5 L5 D5 R5 (Int32.toInt64 x2) (0 : Int64) (7 : Int64)) fun r7 I7 L7 D7 R7 => if r7 = true then (qc_bd (fX12_in w I7 L7 D7 R7 (Int32.toInt64 x3) (0 : Int64) (16 : Int64)) fun r9 I9 L9 D9 R9 => if r9 = true then (qc_bd (fX12_freeRow w I9 L9 D9 R9) fun r11 I11 L11 D11 R11 => qc_gd (qc_inb r11 11) <| qc_gd (qc_inb r11 11) <| fX12_column_l62 w qcF ((qc_u (qc_u I11 293 (Int32.toNatClampNeg r11) x2) 294 (Int32.toNatClampNeg r11) x3), L11, D11, R11, x1, r11, ((16 : Int32) * r11))) else (some ((-1 : Int32), I9, L9, D9, R9))) else (some ((-1 : Int32), I7, L7, D7, R7))) else (some ((-1 : Int32), I5, L5, D5, R5)))
set_option maxRecDepth 100000 in
set_option maxHeartbeats 4000000 in
theorem tX12_column {w : qcW} {I : qTI} {L : qTL} {D : qTD} {R : qTR} {x1 : Int32} {x2 : Int32} {x3 : Int32} {r : Int32} {I' : qTI} {L' : qTL} {D' : qTD} {R' : qTR} (hn : qcNF ≤ w.1) (hR : qc_FR R) (h : fX12_column w I L D R x1 x2 x3 = some (r, I', L', D', R')) : qc_fm qcSM (I, L, D, R) (I', L', D', R') ∧ qc_V (2) 0 0 qmX12_column [.ref 291, .int x1, .int x2, .int x3] w (I, L, D, R) (qc_eq (some (.int r)) w (I', L', D', R')) := by
  unfold fX12_column at h
  refine And.imp_right (fun hx => qc_V.of rfl rfl (Nat.le_of_ble_eq_true rfl) (lv := [(0, .ref 291), (1, .int x1), (2, .int x2), (3, .int x3)]) rfl hx) ?_
  refine And.imp_right (fun hx => qc_iload_n (qc_at qkX12_column 0 rfl) rfl <| hx) ?_
  obtain ⟨r5, I5, L5, D5, R5, e5, h⟩ := qc_bd_of h
  have c5 := (tX12_isColumn hn hR e5)
  refine qd_cSv (qc_at qkX12_column 1 rfl) ql_12_171 qfX12_isColumn c5 rfl rfl (Nat.le_of_ble_eq_true rfl) (qc_rml (by decide) (by decide)) ⟨Nat.zero_le _, Nat.zero_le _⟩ ?_
  refine qc_andB (qc_ifB_eq (qc_at qkX12_column 2 rfl)) (fun u6 => ?_) (fun u6 => ?_)
  · replace h := qc_jf u6 h
    obtain ⟨rfl, rfl, rfl, rfl, rfl⟩ := qc_some5 h
    exact ⟨qc_fm.rf _, qc_iconst (qc_at qkX12_column 15 rfl) <| qc_iret (qc_at qkX12_column 16 rfl) rfl (Nat.le_refl _) (Nat.le_refl _) (qc_eq.rf _ _ _)⟩
  · replace h := qc_jt u6 h
    refine And.imp_right (fun hx => qc_iload_n (qc_at qkX12_column 3 rfl) rfl <| qc_i2l (qc_at qkX12_column 4 rfl) <| qc_lconst (qc_at qkX12_column 5 rfl) <| qc_ldc2l (qc_at qkX12_column 6 rfl) <| hx) ?_
    obtain ⟨r7, I7, L7, D7, R7, e7, h⟩ := qc_bd_of h
    have c7 := (tX12_in hn (c5.1.1 hR) e7)
    refine qd_cSv (qc_at qkX12_column 7 rfl) ql_12_162 qfX12_in c7 rfl rfl (Nat.le_of_ble_eq_true rfl) (qc_rml (by decide) (by decide)) ⟨Nat.zero_le _, Nat.zero_le _⟩ ?_
    refine qc_andB (qc_ifB_eq (qc_at qkX12_column 8 rfl)) (fun u8 => ?_) (fun u8 => ?_)
    · replace h := qc_jf u8 h
      obtain ⟨rfl, rfl, rfl, rfl, rfl⟩ := qc_some5 h
      exact ⟨qc_fm.rf _, qc_iconst (qc_at qkX12_column 15 rfl) <| qc_iret (qc_at qkX12_column 16 rfl) rfl (Nat.le_refl _) (Nat.le_refl _) (qc_eq.rf _ _ _)⟩
    · replace h := qc_jt u8 h
      refine And.imp_right (fun hx => qc_iload_n (qc_at qkX12_column 9 rfl) rfl <| qc_i2l (qc_at qkX12_column 10 rfl) <| qc_lconst (qc_at qkX12_column 11 rfl) <| qc_ldc2l (qc_at qkX12_column 12 rfl) <| hx) ?_
      obtain ⟨r9, I9, L9, D9, R9, e9, h⟩ := qc_bd_of h
      have c9 := (tX12_in hn (c7.1.1 (c5.1.1 hR)) e9)
      refine qd_cSv (qc_at qkX12_column 13 rfl) ql_12_162 qfX12_in c9 rfl rfl (Nat.le_of_ble_eq_true rfl) (qc_rml (by decide) (by decide)) ⟨Nat.zero_le _, Nat.zero_le _⟩ ?_
      refine qc_andBn (qc_ifB_ne (qc_at qkX12_column 14 rfl)) (fun u10 => ?_) (fun u10 => ?_)
      · replace h := qc_jt u10 h
        refine And.imp_right (fun hx => qc_aload_n (qc_at qkX12_column 17 rfl) rfl <| hx) ?_
        obtain ⟨r11, I11, L11, D11, R11, e11, h⟩ := qc_bd_of h
        have c11 := (tX12_freeRow hn (c9.1.1 (c7.1.1 (c5.1.1 hR))) e11)
        refine qd_cVv (ci := 10) (a0 := 291) (qc_at qkX12_column 18 rfl) ql_12_177 qfX12_freeRow (qc_kf hn rfl) rfl c11 rfl rfl (Nat.le_of_ble_eq_true rfl) (qc_rml (by decide) (by decide)) ⟨Nat.zero_le _, Nat.zero_le _⟩ ?_
        refine And.imp_right (fun hx => qc_istore (lv' := [(4, _), (0, _), (1, _), (2, _), (3, _)]) (qc_at qkX12_column 19 rfl) rfl rfl <| qc_aload_n (qc_at qkX12_column 20 rfl) rfl <| qc_gR (qc_at qkX12_column 21 rfl) hn rfl (qfr_291_2 (c11.1.1 (c9.1.1 (c7.1.1 (c5.1.1 hR))))) rfl <| qc_iload (qc_at qkX12_column 22 rfl) rfl <| qc_iload_n (qc_at qkX12_column 23 rfl) rfl <| hx) ?_
        obtain ⟨g12, h⟩ := qc_gd_of h
        refine qd_iast 11 (qc_at qkX12_column 24 rfl) hn rfl (qc_inb_in g12) rfl ?_
        refine And.imp_right (fun hx => qc_aload_n (qc_at qkX12_column 25 rfl) rfl <| qc_gR (qc_at qkX12_column 26 rfl) hn rfl (qfr_291_3 (c11.1.1 (c9.1.1 (c7.1.1 (c5.1.1 hR))))) rfl <| qc_iload (qc_at qkX12_column 27 rfl) rfl <| qc_iload_n (qc_at qkX12_column 28 rfl) rfl <| hx) ?_
        obtain ⟨g13, h⟩ := qc_gd_of h
        refine qd_iast 11 (qc_at qkX12_column 29 rfl) hn rfl (qc_inb_in g13) rfl ?_
        exact And.imp_right (fun hx => qc_bipush (qc_at qkX12_column 30 rfl) <| qc_iload (qc_at qkX12_column 31 rfl) rfl <| qc_imul (qc_at qkX12_column 32 rfl) <| qc_istore (lv' := [(5, _), (4, _), (0, _), (1, _), (2, _), (3, _)]) (qc_at qkX12_column 33 rfl) rfl rfl <| qc_sub [2, 3, 1, 0] rfl hx) (tX12_column_l62 hn qcF (c11.1.1 (c9.1.1 (c7.1.1 (c5.1.1 hR)))) h)
      · replace h := qc_jf u10 h
        obtain ⟨rfl, rfl, rfl, rfl, rfl⟩ := qc_some5 h
        exact ⟨qc_fm.rf _, qc_iconst (qc_at qkX12_column 15 rfl) <| qc_iret (qc_at qkX12_column 16 rfl) rfl (Nat.le_refl _) (Nat.le_refl _) (qc_eq.rf _ _ _)⟩
def fX12_share (w : qcW) (I : qTI) (L : qTL) (D : qTD) (R : qTR) (x1 : Int32) (x2 : Int32) : qcO Int32 :=
  (qc_bd (fX12_isColumn w I L D R x1) fun r1 I1 L1 D1 R1 => if r1 = true then (qc_bd (fX12_isColumn w I1 L1 D1 R1 x2) fun r3 I3 L3 D3 R3 => if r3 = true then (qc_gd (qc_inb x2 10) <| qc_gd (qc_inb x1 10) <| some ((1 : Int32), (qc_u I3 292 (Int32.toNatClampNeg x1) (I3 292 (Int32.toNatClampNeg x2))), L3, D3, R3)) else (some ((-1 : Int32), I3, L3, D3, R3))) else (some ((-1 : Int32), I1, L1, D1, R1)))
set_option maxRecDepth 100000 in
set_option maxHeartbeats 4000000 in
theorem tX12_share {w : qcW} {I : qTI} {L : qTL} {D : qTD} {R : qTR} {x1 : Int32} {x2 : Int32} {r : Int32} {I' : qTI} {L' : qTL} {D' : qTD} {R' : qTR} (hn : qcNF ≤ w.1) (hR : qc_FR R) (h : fX12_share w I L D R x1 x2 = some (r, I', L', D', R')) : qc_fm qcSM (I, L, D, R) (I', L', D', R') ∧ qc_V (2) 0 0 qmX12_share [.ref 291, .int x1, .int x2] w (I, L, D, R) (qc_eq (some (.int r)) w (I', L', D', R')) := by
  unfold fX12_share at h
  refine And.imp_right (fun hx => qc_V.of rfl rfl (Nat.le_of_ble_eq_true rfl) (lv := [(0, .ref 291), (1, .int x1), (2, .int x2)]) rfl hx) ?_
  refine And.imp_right (fun hx => qc_iload_n (qc_at qkX12_share 0 rfl) rfl <| hx) ?_
  obtain ⟨r1, I1, L1, D1, R1, e1, h⟩ := qc_bd_of h
  have c1 := (tX12_isColumn hn hR e1)
  refine qd_cSv (qc_at qkX12_share 1 rfl) ql_12_171 qfX12_isColumn c1 rfl rfl (Nat.le_of_ble_eq_true rfl) (qc_rml (by decide) (by decide)) ⟨Nat.zero_le _, Nat.zero_le _⟩ ?_
  refine qc_andB (qc_ifB_eq (qc_at qkX12_share 2 rfl)) (fun u2 => ?_) (fun u2 => ?_)
  · replace h := qc_jf u2 h
    obtain ⟨rfl, rfl, rfl, rfl, rfl⟩ := qc_some5 h
    exact ⟨qc_fm.rf _, qc_iconst (qc_at qkX12_share 6 rfl) <| qc_iret (qc_at qkX12_share 7 rfl) rfl (Nat.le_refl _) (Nat.le_refl _) (qc_eq.rf _ _ _)⟩
  · replace h := qc_jt u2 h
    refine And.imp_right (fun hx => qc_iload_n (qc_at qkX12_share 3 rfl) rfl <| hx) ?_
    obtain ⟨r3, I3, L3, D3, R3, e3, h⟩ := qc_bd_of h
    have c3 := (tX12_isColumn hn (c1.1.1 hR) e3)
    refine qd_cSv (qc_at qkX12_share 4 rfl) ql_12_171 qfX12_isColumn c3 rfl rfl (Nat.le_of_ble_eq_true rfl) (qc_rml (by decide) (by decide)) ⟨Nat.zero_le _, Nat.zero_le _⟩ ?_
    refine qc_andBn (qc_ifB_ne (qc_at qkX12_share 5 rfl)) (fun u4 => ?_) (fun u4 => ?_)
    · replace h := qc_jt u4 h
      refine And.imp_right (fun hx => qc_aload_n (qc_at qkX12_share 8 rfl) rfl <| qc_gR (qc_at qkX12_share 9 rfl) hn rfl (qfr_291_1 (c3.1.1 (c1.1.1 hR))) rfl <| qc_iload_n (qc_at qkX12_share 10 rfl) rfl <| qc_aload_n (qc_at qkX12_share 11 rfl) rfl <| qc_gR (qc_at qkX12_share 12 rfl) hn rfl (qfr_291_1 (c3.1.1 (c1.1.1 hR))) rfl <| qc_iload_n (qc_at qkX12_share 13 rfl) rfl <| hx) ?_
      obtain ⟨g5, h⟩ := qc_gd_of h
      refine And.imp_right (fun hx => qc_iald 10 (qc_at qkX12_share 14 rfl) hn rfl (qc_inb_in g5) <| hx) ?_
      obtain ⟨g6, h⟩ := qc_gd_of h
      refine qd_iast 10 (qc_at qkX12_share 15 rfl) hn rfl (qc_inb_in g6) rfl ?_
      obtain ⟨rfl, rfl, rfl, rfl, rfl⟩ := qc_some5 h
      exact ⟨qc_fm.rf _, qc_iconst (qc_at qkX12_share 16 rfl) <| qc_iret (qc_at qkX12_share 17 rfl) rfl (Nat.le_refl _) (Nat.le_refl _) (qc_eq.rf _ _ _)⟩
    · replace h := qc_jf u4 h
      obtain ⟨rfl, rfl, rfl, rfl, rfl⟩ := qc_some5 h
      exact ⟨qc_fm.rf _, qc_iconst (qc_at qkX12_share 6 rfl) <| qc_iret (qc_at qkX12_share 7 rfl) rfl (Nat.le_refl _) (Nat.le_refl _) (qc_eq.rf _ _ _)⟩
def fX12_drop_b24 (w : qcW) (I : qTI) (L : qTL) (D : qTD) (R : qTR) (x1 : Int32) (s0 : Int32) : qcO Int32 :=
  (qc_gd (qc_inb x1 10) <| some (s0, (qc_u I 292 (Int32.toNatClampNeg x1) (-1 : Int32)), L, D, R))
set_option maxRecDepth 100000 in
set_option maxHeartbeats 4000000 in
theorem tX12_drop_b24 {w : qcW} {I : qTI} {L : qTL} {D : qTD} {R : qTR} {x1 : Int32} {s0 : Int32} {r : Int32} {I' : qTI} {L' : qTL} {D' : qTD} {R' : qTR} (hn : qcNF ≤ w.1) (hR : qc_FR R) (h : fX12_drop_b24 w I L D R x1 s0 = some (r, I', L', D', R')) : qc_fm qcSM (I, L, D, R) (I', L', D', R') ∧ qc_X (qc_rm (2) 0 0) qmX12_drop (qc_QM 0 0 (qc_eq (some (.int r)) w (I', L', D', R'))) 0 0 w (24, [(0, .ref 291), (1, .int x1)], [.int s0], I, L, D, R) := by
  unfold fX12_drop_b24 at h
  refine And.imp_right (fun hx => qc_istore_n (lv' := [(2, _), (0, _), (1, _)]) (qc_at qkX12_drop 14 rfl) rfl rfl <| qc_aload_n (qc_at qkX12_drop 15 rfl) rfl <| qc_gR (qc_at qkX12_drop 16 rfl) hn rfl (qfr_291_1 hR) rfl <| qc_iload_n (qc_at qkX12_drop 17 rfl) rfl <| qc_iconst (qc_at qkX12_drop 18 rfl) <| hx) ?_
  obtain ⟨g1, h⟩ := qc_gd_of h
  refine qd_iast 10 (qc_at qkX12_drop 19 rfl) hn rfl (qc_inb_in g1) rfl ?_
  obtain ⟨rfl, rfl, rfl, rfl, rfl⟩ := qc_some5 h
  exact ⟨qc_fm.rf _, qc_iload_n (qc_at qkX12_drop 20 rfl) rfl <| qc_iret (qc_at qkX12_drop 21 rfl) rfl (Nat.le_refl _) (Nat.le_refl _) (qc_eq.rf _ _ _)⟩
def fX12_drop (w : qcW) (I : qTI) (L : qTL) (D : qTD) (R : qTR) (x1 : Int32) : qcO Int32 :=
  (qc_bd (fX12_isColumn w I L D R x1) fun r2 I2 L2 D2 R2 => if r2 = true then (qc_gd (qc_inb x1 10) <| if (I2 292 (Int32.toNatClampNeg x1)) = (-1 : Int32) then (fX12_drop_b24 w I2 L2 D2 R2 x1 (0 : Int32)) else (fX12_drop_b24 w I2 L2 D2 R2 x1 (1 : Int32))) else (some ((-1 : Int32), I2, L2, D2, R2)))
set_option maxRecDepth 100000 in
set_option maxHeartbeats 4000000 in
theorem tX12_drop {w : qcW} {I : qTI} {L : qTL} {D : qTD} {R : qTR} {x1 : Int32} {r : Int32} {I' : qTI} {L' : qTL} {D' : qTD} {R' : qTR} (hn : qcNF ≤ w.1) (hR : qc_FR R) (h : fX12_drop w I L D R x1 = some (r, I', L', D', R')) : qc_fm qcSM (I, L, D, R) (I', L', D', R') ∧ qc_V (2) 0 0 qmX12_drop [.ref 291, .int x1] w (I, L, D, R) (qc_eq (some (.int r)) w (I', L', D', R')) := by
  unfold fX12_drop at h
  refine And.imp_right (fun hx => qc_V.of rfl rfl (Nat.le_of_ble_eq_true rfl) (lv := [(0, .ref 291), (1, .int x1)]) rfl hx) ?_
  refine And.imp_right (fun hx => qc_iload_n (qc_at qkX12_drop 0 rfl) rfl <| hx) ?_
  obtain ⟨r2, I2, L2, D2, R2, e2, h⟩ := qc_bd_of h
  have c2 := (tX12_isColumn hn hR e2)
  refine qd_cSv (qc_at qkX12_drop 1 rfl) ql_12_171 qfX12_isColumn c2 rfl rfl (Nat.le_of_ble_eq_true rfl) (qc_rml (by decide) (by decide)) ⟨Nat.zero_le _, Nat.zero_le _⟩ ?_
  refine qc_andBn (qc_ifB_ne (qc_at qkX12_drop 2 rfl)) (fun u3 => ?_) (fun u3 => ?_)
  · replace h := qc_jt u3 h
    refine And.imp_right (fun hx => qc_aload_n (qc_at qkX12_drop 5 rfl) rfl <| qc_gR (qc_at qkX12_drop 6 rfl) hn rfl (qfr_291_1 (c2.1.1 hR)) rfl <| qc_iload_n (qc_at qkX12_drop 7 rfl) rfl <| hx) ?_
    obtain ⟨g4, h⟩ := qc_gd_of h
    refine And.imp_right (fun hx => qc_iald 10 (qc_at qkX12_drop 8 rfl) hn rfl (qc_inb_in g4) <| qc_iconst (qc_at qkX12_drop 9 rfl) <| hx) ?_
    refine qc_andN (qc_icmp_ne (qc_at qkX12_drop 10 rfl)) (fun u5 => ?_) (fun u5 => ?_)
    · replace h := qc_jn u5 h
      exact And.imp_right (fun hx => qc_iconst (qc_at qkX12_drop 13 rfl) <| qc_sub [0, 1] rfl hx) (tX12_drop_b24 hn (c2.1.1 hR) h)
    · replace h := qc_jp u5 h
      exact And.imp_right (fun hx => qc_iconst (qc_at qkX12_drop 11 rfl) <| qc_goto (qc_at qkX12_drop 12 rfl) <| qc_sub [0, 1] rfl hx) (tX12_drop_b24 hn (c2.1.1 hR) h)
  · replace h := qc_jf u3 h
    obtain ⟨rfl, rfl, rfl, rfl, rfl⟩ := qc_some5 h
    exact ⟨qc_fm.rf _, qc_iconst (qc_at qkX12_drop 3 rfl) <| qc_iret (qc_at qkX12_drop 4 rfl) rfl (Nat.le_refl _) (Nat.le_refl _) (qc_eq.rf _ _ _)⟩
def fX12_lowest (w : qcW) (I : qTI) (L : qTL) (D : qTD) (R : qTR) (x0 : Int32) (x1 : Int64) : qcO Int64 :=
  (if x0 = 0 then (if (lg_cmp x1 (0 : Int64)) = 0 then (some ((0 : Int64), I, L, D, R)) else (some ((1 : Int64), I, L, D, R))) else (if x0 = (1 : Int32) then (some ((Int32.toInt64 (Int8.toInt32 (Int32.toInt8 (Int64.toInt32 x1)))), I, L, D, R)) else (if x0 = (2 : Int32) then (some ((Int32.toInt64 (Int16.toInt32 (Int32.toInt16 (Int64.toInt32 x1)))), I, L, D, R)) else (if x0 = (3 : Int32) then (some ((Int32.toInt64 (UInt32.toInt32 (Int32.toUInt32 (Int64.toInt32 x1) % 65536))), I, L, D, R)) else (if x0 = (4 : Int32) then (some ((Int32.toInt64 (Int64.toInt32 x1)), I, L, D, R)) else (some (x1, I, L, D, R)))))))
set_option maxRecDepth 100000 in
set_option maxHeartbeats 4000000 in
theorem tX12_lowest {w : qcW} {I : qTI} {L : qTL} {D : qTD} {R : qTR} {x0 : Int32} {x1 : Int64} {r : Int64} {I' : qTI} {L' : qTL} {D' : qTD} {R' : qTR} (hn : qcNF ≤ w.1) (hR : qc_FR R) (h : fX12_lowest w I L D R x0 x1 = some (r, I', L', D', R')) : qc_fm qcSM (I, L, D, R) (I', L', D', R') ∧ qc_V (0) 0 0 qmX12_lowest [.int x0, .long x1] w (I, L, D, R) (qc_eq (some (.long r)) w (I', L', D', R')) := by
  unfold fX12_lowest at h
  refine And.imp_right (fun hx => qc_V.of rfl rfl (Nat.le_of_ble_eq_true rfl) (lv := [(0, .int x0), (1, .long x1)]) rfl hx) ?_
  refine And.imp_right (fun hx => qc_iload_n (qc_at qkX12_lowest 0 rfl) rfl <| hx) ?_
  refine qc_andN (qc_if_ne (qc_at qkX12_lowest 1 rfl)) (fun u1 => ?_) (fun u1 => ?_)
  · replace h := qc_jn u1 h
    refine And.imp_right (fun hx => qc_iload_n (qc_at qkX12_lowest 10 rfl) rfl <| qc_iconst (qc_at qkX12_lowest 11 rfl) <| hx) ?_
    refine qc_andN (qc_icmp_ne (qc_at qkX12_lowest 12 rfl)) (fun u2 => ?_) (fun u2 => ?_)
    · replace h := qc_jn u2 h
      refine And.imp_right (fun hx => qc_iload_n (qc_at qkX12_lowest 18 rfl) rfl <| qc_iconst (qc_at qkX12_lowest 19 rfl) <| hx) ?_
      refine qc_andN (qc_icmp_ne (qc_at qkX12_lowest 20 rfl)) (fun u3 => ?_) (fun u3 => ?_)
      · replace h := qc_jn u3 h
        refine And.imp_right (fun hx => qc_iload_n (qc_at qkX12_lowest 26 rfl) rfl <| qc_iconst (qc_at qkX12_lowest 27 rfl) <| hx) ?_
        refine qc_andN (qc_icmp_ne (qc_at qkX12_lowest 28 rfl)) (fun u4 => ?_) (fun u4 => ?_)
        · replace h := qc_jn u4 h
          refine And.imp_right (fun hx => qc_iload_n (qc_at qkX12_lowest 34 rfl) rfl <| qc_iconst (qc_at qkX12_lowest 35 rfl) <| hx) ?_
          refine qc_andN (qc_icmp_ne (qc_at qkX12_lowest 36 rfl)) (fun u5 => ?_) (fun u5 => ?_)
          · replace h := qc_jn u5 h
            obtain ⟨rfl, rfl, rfl, rfl, rfl⟩ := qc_some5 h
            exact ⟨qc_fm.rf _, qc_lload_n (qc_at qkX12_lowest 41 rfl) rfl <| qc_lret (qc_at qkX12_lowest 42 rfl) rfl (Nat.le_refl _) (Nat.le_refl _) (qc_eq.rf _ _ _)⟩
          · replace h := qc_jp u5 h
            obtain ⟨rfl, rfl, rfl, rfl, rfl⟩ := qc_some5 h
            exact ⟨qc_fm.rf _, qc_lload_n (qc_at qkX12_lowest 37 rfl) rfl <| qc_l2i (qc_at qkX12_lowest 38 rfl) <| qc_i2l (qc_at qkX12_lowest 39 rfl) <| qc_goto (qc_at qkX12_lowest 40 rfl) <| qc_lret (qc_at qkX12_lowest 42 rfl) rfl (Nat.le_refl _) (Nat.le_refl _) (qc_eq.rf _ _ _)⟩
        · replace h := qc_jp u4 h
          obtain ⟨rfl, rfl, rfl, rfl, rfl⟩ := qc_some5 h
          exact ⟨qc_fm.rf _, qc_lload_n (qc_at qkX12_lowest 29 rfl) rfl <| qc_l2i (qc_at qkX12_lowest 30 rfl) <| qc_i2c (qc_at qkX12_lowest 31 rfl) <| qc_i2l (qc_at qkX12_lowest 32 rfl) <| qc_goto (qc_at qkX12_lowest 33 rfl) <| qc_lret (qc_at qkX12_lowest 42 rfl) rfl (Nat.le_refl _) (Nat.le_refl _) (qc_eq.rf _ _ _)⟩
      · replace h := qc_jp u3 h
        obtain ⟨rfl, rfl, rfl, rfl, rfl⟩ := qc_some5 h
        exact ⟨qc_fm.rf _, qc_lload_n (qc_at qkX12_lowest 21 rfl) rfl <| qc_l2i (qc_at qkX12_lowest 22 rfl) <| qc_i2s (qc_at qkX12_lowest 23 rfl) <| qc_i2l (qc_at qkX12_lowest 24 rfl) <| qc_goto (qc_at qkX12_lowest 25 rfl) <| qc_lret (qc_at qkX12_lowest 42 rfl) rfl (Nat.le_refl _) (Nat.le_refl _) (qc_eq.rf _ _ _)⟩
    · replace h := qc_jp u2 h
      obtain ⟨rfl, rfl, rfl, rfl, rfl⟩ := qc_some5 h
      exact ⟨qc_fm.rf _, qc_lload_n (qc_at qkX12_lowest 13 rfl) rfl <| qc_l2i (qc_at qkX12_lowest 14 rfl) <| qc_i2b (qc_at qkX12_lowest 15 rfl) <| qc_i2l (qc_at qkX12_lowest 16 rfl) <| qc_goto (qc_at qkX12_lowest 17 rfl) <| qc_lret (qc_at qkX12_lowest 42 rfl) rfl (Nat.le_refl _) (Nat.le_refl _) (qc_eq.rf _ _ _)⟩
  · replace h := qc_jp u1 h
    refine And.imp_right (fun hx => qc_lload_n (qc_at qkX12_lowest 2 rfl) rfl <| qc_lconst (qc_at qkX12_lowest 3 rfl) <| qc_lcmp (qc_at qkX12_lowest 4 rfl) <| hx) ?_
    refine qc_andC (qc_if_eq (qc_at qkX12_lowest 5 rfl)) (fun u6 => ?_) (fun u6 => ?_)
    · replace h := qc_jp u6 h
      obtain ⟨rfl, rfl, rfl, rfl, rfl⟩ := qc_some5 h
      exact ⟨qc_fm.rf _, qc_lconst (qc_at qkX12_lowest 8 rfl) <| qc_goto (qc_at qkX12_lowest 9 rfl) <| qc_lret (qc_at qkX12_lowest 42 rfl) rfl (Nat.le_refl _) (Nat.le_refl _) (qc_eq.rf _ _ _)⟩
    · replace h := qc_jn u6 h
      obtain ⟨rfl, rfl, rfl, rfl, rfl⟩ := qc_some5 h
      exact ⟨qc_fm.rf _, qc_lconst (qc_at qkX12_lowest 6 rfl) <| qc_goto (qc_at qkX12_lowest 7 rfl) <| qc_lret (qc_at qkX12_lowest 42 rfl) rfl (Nat.le_refl _) (Nat.le_refl _) (qc_eq.rf _ _ _)⟩
def fX12_put_b44 (w : qcW) (I : qTI) (L : qTL) (D : qTD) (R : qTR) (x2 : Int32) (x3 : Int64) (x5 : Int32) : qcO Int32 :=
  (if x5 = (-1 : Int32) then (some ((-3 : Int32), I, L, D, R)) else (qc_gd (qc_inb x5 11) <| if (I 293 (Int32.toNatClampNeg x5)) = (6 : Int32) then (if ((Int64.toInt32 x3) &&& (2147483647 : Int32)) ≤ (2139095040 : Int32) then (qc_gd (!(vn_sni2f (Int64.toInt32 x3))) <| qc_gd (qc_n64 (FP.f2d (Int32.toUInt32 (Int64.toInt32 x3)))) <| qc_gd (qc_inb (((16 : Int32) * x5) + x2) 176) <| some ((1 : Int32), I, L, (qc_u D 296 (Int32.toNatClampNeg (((16 : Int32) * x5) + x2)) (FP.f2d (Int32.toUInt32 (Int64.toInt32 x3)))), R)) else (some ((-1 : Int32), I, L, D, R))) else (qc_gd (qc_inb x5 11) <| if (I 293 (Int32.toNatClampNeg x5)) = (7 : Int32) then (if (lg_cmp (x3 &&& (9223372036854775807 : Int64)) (9218868437227405312 : Int64)) ≤ 0 then (qc_gd (!(vn_snl2d x3)) <| qc_gd (qc_inb (((16 : Int32) * x5) + x2) 176) <| some ((1 : Int32), I, L, (qc_u D 296 (Int32.toNatClampNeg (((16 : Int32) * x5) + x2)) (Int64.toUInt64 x3)), R)) else (some ((-1 : Int32), I, L, D, R))) else (qc_gd (qc_inb x5 11) <| qc_bd (fX12_lowest w I L D R (I 293 (Int32.toNatClampNeg x5)) x3) fun r7 I7 L7 D7 R7 => qc_gd (qc_inb (((16 : Int32) * x5) + x2) 176) <| some ((1 : Int32), I7, (qc_u L7 295 (Int32.toNatClampNeg (((16 : Int32) * x5) + x2)) r7), D7, R7)))))
set_option maxRecDepth 100000 in
set_option maxHeartbeats 4000000 in
theorem tX12_put_b44 {w : qcW} {I : qTI} {L : qTL} {D : qTD} {R : qTR} {x2 : Int32} {x3 : Int64} {x5 : Int32} {r : Int32} {I' : qTI} {L' : qTL} {D' : qTD} {R' : qTR} (hn : qcNF ≤ w.1) (hR : qc_FR R) (h : fX12_put_b44 w I L D R x2 x3 x5 = some (r, I', L', D', R')) : qc_fm qcSM (I, L, D, R) (I', L', D', R') ∧ qc_X (qc_rm (2) 0 0) qmX12_put (qc_QM 0 0 (qc_eq (some (.int r)) w (I', L', D', R'))) 0 0 w (44, [(0, .ref 291), (2, .int x2), (3, .long x3), (5, .int x5)], [], I, L, D, R) := by
  unfold fX12_put_b44 at h
  refine And.imp_right (fun hx => qc_iload (qc_at qkX12_put 27 rfl) rfl <| qc_iconst (qc_at qkX12_put 28 rfl) <| hx) ?_
  refine qc_andN (qc_icmp_ne (qc_at qkX12_put 29 rfl)) (fun u1 => ?_) (fun u1 => ?_)
  · replace h := qc_jn u1 h
    refine And.imp_right (fun hx => qc_bipush (qc_at qkX12_put 32 rfl) <| qc_iload (qc_at qkX12_put 33 rfl) rfl <| qc_imul (qc_at qkX12_put 34 rfl) <| qc_iload_n (qc_at qkX12_put 35 rfl) rfl <| qc_iadd (qc_at qkX12_put 36 rfl) <| qc_istore (lv' := [(6, _), (0, _), (2, _), (3, _), (5, _)]) (qc_at qkX12_put 37 rfl) rfl rfl <| qc_aload_n (qc_at qkX12_put 38 rfl) rfl <| qc_gR (qc_at qkX12_put 39 rfl) hn rfl (qfr_291_2 hR) rfl <| qc_iload (qc_at qkX12_put 40 rfl) rfl <| hx) ?_
    obtain ⟨g2, h⟩ := qc_gd_of h
    refine And.imp_right (fun hx => qc_iald 11 (qc_at qkX12_put 41 rfl) hn rfl (qc_inb_in g2) <| qc_bipush (qc_at qkX12_put 42 rfl) <| hx) ?_
    refine qc_andN (qc_icmp_ne (qc_at qkX12_put 43 rfl)) (fun u3 => ?_) (fun u3 => ?_)
    · replace h := qc_jn u3 h
      refine And.imp_right (fun hx => qc_aload_n (qc_at qkX12_put 62 rfl) rfl <| qc_gR (qc_at qkX12_put 63 rfl) hn rfl (qfr_291_2 hR) rfl <| qc_iload (qc_at qkX12_put 64 rfl) rfl <| hx) ?_
      obtain ⟨g4, h⟩ := qc_gd_of h
      refine And.imp_right (fun hx => qc_iald 11 (qc_at qkX12_put 65 rfl) hn rfl (qc_inb_in g4) <| qc_bipush (qc_at qkX12_put 66 rfl) <| hx) ?_
      refine qc_andN (qc_icmp_ne (qc_at qkX12_put 67 rfl)) (fun u5 => ?_) (fun u5 => ?_)
      · replace h := qc_jn u5 h
        refine And.imp_right (fun hx => qc_aload_n (qc_at qkX12_put 83 rfl) rfl <| qc_gR (qc_at qkX12_put 84 rfl) hn rfl (qfr_291_4 hR) rfl <| qc_iload (qc_at qkX12_put 85 rfl) rfl <| qc_aload_n (qc_at qkX12_put 86 rfl) rfl <| qc_gR (qc_at qkX12_put 87 rfl) hn rfl (qfr_291_2 hR) rfl <| qc_iload (qc_at qkX12_put 88 rfl) rfl <| hx) ?_
        obtain ⟨g6, h⟩ := qc_gd_of h
        refine And.imp_right (fun hx => qc_iald 11 (qc_at qkX12_put 89 rfl) hn rfl (qc_inb_in g6) <| qc_lload_n (qc_at qkX12_put 90 rfl) rfl <| hx) ?_
        obtain ⟨r7, I7, L7, D7, R7, e7, h⟩ := qc_bd_of h
        have c7 := (tX12_lowest hn hR e7)
        refine qd_cSv (qc_at qkX12_put 91 rfl) ql_12_199 qfX12_lowest c7 rfl rfl (Nat.le_of_ble_eq_true rfl) (qc_rml (by decide) (by decide)) ⟨Nat.zero_le _, Nat.zero_le _⟩ ?_
        obtain ⟨g8, h⟩ := qc_gd_of h
        refine qd_last 176 (qc_at qkX12_put 92 rfl) hn rfl (qc_inb_in g8) rfl ?_
        obtain ⟨rfl, rfl, rfl, rfl, rfl⟩ := qc_some5 h
        exact ⟨qc_fm.rf _, qc_iconst (qc_at qkX12_put 93 rfl) <| qc_iret (qc_at qkX12_put 94 rfl) rfl (Nat.le_refl _) (Nat.le_refl _) (qc_eq.rf _ _ _)⟩
      · replace h := qc_jp u5 h
        refine And.imp_right (fun hx => qc_lload_n (qc_at qkX12_put 68 rfl) rfl <| qc_ldc2l (qc_at qkX12_put 69 rfl) <| qc_land (qc_at qkX12_put 70 rfl) <| qc_ldc2l (qc_at qkX12_put 71 rfl) <| qc_lcmp (qc_at qkX12_put 72 rfl) <| hx) ?_
        refine qc_andC (qc_if_le (qc_at qkX12_put 73 rfl)) (fun u9 => ?_) (fun u9 => ?_)
        · replace h := qc_jp u9 h
          refine And.imp_right (fun hx => qc_aload_n (qc_at qkX12_put 76 rfl) rfl <| qc_gR (qc_at qkX12_put 77 rfl) hn rfl (qfr_291_5 hR) rfl <| qc_iload (qc_at qkX12_put 78 rfl) rfl <| qc_lload_n (qc_at qkX12_put 79 rfl) rfl <| hx) ?_
          obtain ⟨g10, h⟩ := qc_gd_of h
          replace g10 := qj_nf g10
          refine And.imp_right (fun hx => qj_l2d (qc_at qkX12_put 80 rfl) qj_l2dL12_193 g10 (Nat.le_of_ble_eq_true rfl) ⟨by decide, by decide⟩ <| hx) ?_
          obtain ⟨g11, h⟩ := qc_gd_of h
          refine qd_dast 176 (qc_at qkX12_put 81 rfl) hn rfl (qc_inb_in g11) rfl ?_
          obtain ⟨rfl, rfl, rfl, rfl, rfl⟩ := qc_some5 h
          exact ⟨qc_fm.rf _, qc_goto (qc_at qkX12_put 82 rfl) <| qc_iconst (qc_at qkX12_put 93 rfl) <| qc_iret (qc_at qkX12_put 94 rfl) rfl (Nat.le_refl _) (Nat.le_refl _) (qc_eq.rf _ _ _)⟩
        · replace h := qc_jn u9 h
          obtain ⟨rfl, rfl, rfl, rfl, rfl⟩ := qc_some5 h
          exact ⟨qc_fm.rf _, qc_iconst (qc_at qkX12_put 74 rfl) <| qc_iret (qc_at qkX12_put 75 rfl) rfl (Nat.le_refl _) (Nat.le_refl _) (qc_eq.rf _ _ _)⟩
    · replace h := qc_jp u3 h
      refine And.imp_right (fun hx => qc_lload_n (qc_at qkX12_put 44 rfl) rfl <| qc_l2i (qc_at qkX12_put 45 rfl) <| qc_istore (lv' := [(7, _), (6, _), (0, _), (2, _), (3, _), (5, _)]) (qc_at qkX12_put 46 rfl) rfl rfl <| qc_iload (qc_at qkX12_put 47 rfl) rfl <| qc_ldc (qc_at qkX12_put 48 rfl) <| qc_iand (qc_at qkX12_put 49 rfl) <| qc_ldc (qc_at qkX12_put 50 rfl) <| hx) ?_
      refine qc_andC (qc_icmp_le (qc_at qkX12_put 51 rfl)) (fun u12 => ?_) (fun u12 => ?_)
      · replace h := qc_jp u12 h
        refine And.imp_right (fun hx => qc_aload_n (qc_at qkX12_put 54 rfl) rfl <| qc_gR (qc_at qkX12_put 55 rfl) hn rfl (qfr_291_5 hR) rfl <| qc_iload (qc_at qkX12_put 56 rfl) rfl <| qc_iload (qc_at qkX12_put 57 rfl) rfl <| hx) ?_
        obtain ⟨g13, h⟩ := qc_gd_of h
        replace g13 := qj_nf g13
        refine And.imp_right (fun hx => qj_i2f (qc_at qkX12_put 58 rfl) qj_i2fL12_183 g13 (Nat.le_of_ble_eq_true rfl) ⟨by decide, by decide⟩ <| hx) ?_
        obtain ⟨g14, h⟩ := qc_gd_of h
        replace g14 := qc_n64_of g14
        refine And.imp_right (fun hx => qc_f2d (qc_at qkX12_put 59 rfl) g14 <| hx) ?_
        obtain ⟨g15, h⟩ := qc_gd_of h
        refine qd_dast 176 (qc_at qkX12_put 60 rfl) hn rfl (qc_inb_in g15) rfl ?_
        obtain ⟨rfl, rfl, rfl, rfl, rfl⟩ := qc_some5 h
        exact ⟨qc_fm.rf _, qc_goto (qc_at qkX12_put 61 rfl) <| qc_iconst (qc_at qkX12_put 93 rfl) <| qc_iret (qc_at qkX12_put 94 rfl) rfl (Nat.le_refl _) (Nat.le_refl _) (qc_eq.rf _ _ _)⟩
      · replace h := qc_jn u12 h
        obtain ⟨rfl, rfl, rfl, rfl, rfl⟩ := qc_some5 h
        exact ⟨qc_fm.rf _, qc_iconst (qc_at qkX12_put 52 rfl) <| qc_iret (qc_at qkX12_put 53 rfl) rfl (Nat.le_refl _) (Nat.le_refl _) (qc_eq.rf _ _ _)⟩
  · replace h := qc_jp u1 h
    obtain ⟨rfl, rfl, rfl, rfl, rfl⟩ := qc_some5 h
    exact ⟨qc_fm.rf _, qc_bipush (qc_at qkX12_put 30 rfl) <| qc_iret (qc_at qkX12_put 31 rfl) rfl (Nat.le_refl _) (Nat.le_refl _) (qc_eq.rf _ _ _)⟩
def fX12_put (w : qcW) (I : qTI) (L : qTL) (D : qTD) (R : qTR) (x1 : Int32) (x2 : Int32) (x3 : Int64) : qcO Int32 :=
  (qc_bd (fX12_isColumn w I L D R x1) fun r16 I16 L16 D16 R16 => if r16 = true then (qc_gd (qc_inb x1 10) <| if (I16 292 (Int32.toNatClampNeg x1)) = (-1 : Int32) then (fX12_put_b44 w I16 L16 D16 R16 x2 x3 (I16 292 (Int32.toNatClampNeg x1))) else (qc_gd (qc_inb (I16 292 (Int32.toNatClampNeg x1)) 11) <| qc_bd (fX12_in w I16 L16 D16 R16 (Int32.toInt64 x2) (0 : Int64) (Int32.toInt64 ((I16 294 (Int32.toNatClampNeg (I16 292 (Int32.toNatClampNeg x1)))) - (1 : Int32)))) fun r21 I21 L21 D21 R21 => if r21 = true then (fX12_put_b44 w I21 L21 D21 R21 x2 x3 (I16 292 (Int32.toNatClampNeg x1))) else (some ((-1 : Int32), I21, L21, D21, R21)))) else (some ((-1 : Int32), I16, L16, D16, R16)))
set_option maxRecDepth 100000 in
set_option maxHeartbeats 4000000 in
theorem tX12_put {w : qcW} {I : qTI} {L : qTL} {D : qTD} {R : qTR} {x1 : Int32} {x2 : Int32} {x3 : Int64} {r : Int32} {I' : qTI} {L' : qTL} {D' : qTD} {R' : qTR} (hn : qcNF ≤ w.1) (hR : qc_FR R) (h : fX12_put w I L D R x1 x2 x3 = some (r, I', L', D', R')) : qc_fm qcSM (I, L, D, R) (I', L', D', R') ∧ qc_V (2) 0 0 qmX12_put [.ref 291, .int x1, .int x2, .long x3] w (I, L, D, R) (qc_eq (some (.int r)) w (I', L', D', R')) := by
  unfold fX12_put at h
  refine And.imp_right (fun hx => qc_V.of rfl rfl (Nat.le_of_ble_eq_true rfl) (lv := [(0, .ref 291), (1, .int x1), (2, .int x2), (3, .long x3)]) rfl hx) ?_
  refine And.imp_right (fun hx => qc_iload_n (qc_at qkX12_put 0 rfl) rfl <| hx) ?_
  obtain ⟨r16, I16, L16, D16, R16, e16, h⟩ := qc_bd_of h
  have c16 := (tX12_isColumn hn hR e16)
  refine qd_cSv (qc_at qkX12_put 1 rfl) ql_12_171 qfX12_isColumn c16 rfl rfl (Nat.le_of_ble_eq_true rfl) (qc_rml (by decide) (by decide)) ⟨Nat.zero_le _, Nat.zero_le _⟩ ?_
  refine qc_andBn (qc_ifB_ne (qc_at qkX12_put 2 rfl)) (fun u17 => ?_) (fun u17 => ?_)
  · replace h := qc_jt u17 h
    refine And.imp_right (fun hx => qc_aload_n (qc_at qkX12_put 5 rfl) rfl <| qc_gR (qc_at qkX12_put 6 rfl) hn rfl (qfr_291_1 (c16.1.1 hR)) rfl <| qc_iload_n (qc_at qkX12_put 7 rfl) rfl <| hx) ?_
    obtain ⟨g18, h⟩ := qc_gd_of h
    refine And.imp_right (fun hx => qc_iald 10 (qc_at qkX12_put 8 rfl) hn rfl (qc_inb_in g18) <| qc_istore (lv' := [(5, _), (0, _), (1, _), (2, _), (3, _)]) (qc_at qkX12_put 9 rfl) rfl rfl <| qc_iload (qc_at qkX12_put 10 rfl) rfl <| qc_iconst (qc_at qkX12_put 11 rfl) <| hx) ?_
    refine qc_andC (qc_icmp_eq (qc_at qkX12_put 12 rfl)) (fun u19 => ?_) (fun u19 => ?_)
    · replace h := qc_jp u19 h
      exact And.imp_right (fun hx => qc_sub [1, 3, 4, 0] rfl hx) (tX12_put_b44 hn (c16.1.1 hR) h)
    · replace h := qc_jn u19 h
      refine And.imp_right (fun hx => qc_iload_n (qc_at qkX12_put 13 rfl) rfl <| qc_i2l (qc_at qkX12_put 14 rfl) <| qc_lconst (qc_at qkX12_put 15 rfl) <| qc_aload_n (qc_at qkX12_put 16 rfl) rfl <| qc_gR (qc_at qkX12_put 17 rfl) hn rfl (qfr_291_3 (c16.1.1 hR)) rfl <| qc_iload (qc_at qkX12_put 18 rfl) rfl <| hx) ?_
      obtain ⟨g20, h⟩ := qc_gd_of h
      refine And.imp_right (fun hx => qc_iald 11 (qc_at qkX12_put 19 rfl) hn rfl (qc_inb_in g20) <| qc_iconst (qc_at qkX12_put 20 rfl) <| qc_isub (qc_at qkX12_put 21 rfl) <| qc_i2l (qc_at qkX12_put 22 rfl) <| hx) ?_
      obtain ⟨r21, I21, L21, D21, R21, e21, h⟩ := qc_bd_of h
      have c21 := (tX12_in hn (c16.1.1 hR) e21)
      refine qd_cSv (qc_at qkX12_put 23 rfl) ql_12_162 qfX12_in c21 rfl rfl (Nat.le_of_ble_eq_true rfl) (qc_rml (by decide) (by decide)) ⟨Nat.zero_le _, Nat.zero_le _⟩ ?_
      refine qc_andBn (qc_ifB_ne (qc_at qkX12_put 24 rfl)) (fun u22 => ?_) (fun u22 => ?_)
      · replace h := qc_jt u22 h
        exact And.imp_right (fun hx => qc_sub [1, 3, 4, 0] rfl hx) (tX12_put_b44 hn (c21.1.1 (c16.1.1 hR)) h)
      · replace h := qc_jf u22 h
        obtain ⟨rfl, rfl, rfl, rfl, rfl⟩ := qc_some5 h
        exact ⟨qc_fm.rf _, qc_iconst (qc_at qkX12_put 25 rfl) <| qc_iret (qc_at qkX12_put 26 rfl) rfl (Nat.le_refl _) (Nat.le_refl _) (qc_eq.rf _ _ _)⟩
  · replace h := qc_jf u17 h
    obtain ⟨rfl, rfl, rfl, rfl, rfl⟩ := qc_some5 h
    exact ⟨qc_fm.rf _, qc_iconst (qc_at qkX12_put 3 rfl) <| qc_iret (qc_at qkX12_put 4 rfl) rfl (Nat.le_refl _) (Nat.le_refl _) (qc_eq.rf _ _ _)⟩
def fX12_bitsOf (w : qcW) (I : qTI) (L : qTL) (D : qTD) (R : qTR) (x1 : Int32) (x2 : Int32) : qcO Int64 :=
  (if x1 = (6 : Int32) then (qc_gd (qc_inb x2 176) <| qc_gd (qc_n32 (FP.d2f (D 296 (Int32.toNatClampNeg x2)))) <| qc_bd (fJxf58ca_floatToIntBits_5c35a w I L D R (FP.d2f (D 296 (Int32.toNatClampNeg x2)))) fun r8 I8 L8 D8 R8 => some ((Int32.toInt64 r8), I8, L8, D8, R8)) else (if x1 = (7 : Int32) then (qc_gd (qc_inb x2 176) <| qc_bd (fJxe99ae_doubleToLongBits_ccdee w I L D R (D 296 (Int32.toNatClampNeg x2))) fun r5 I5 L5 D5 R5 => some (r5, I5, L5, D5, R5)) else (qc_gd (qc_inb x2 176) <| some ((L 295 (Int32.toNatClampNeg x2)), I, L, D, R))))
set_option maxRecDepth 100000 in
set_option maxHeartbeats 4000000 in
theorem tX12_bitsOf {w : qcW} {I : qTI} {L : qTL} {D : qTD} {R : qTR} {x1 : Int32} {x2 : Int32} {r : Int64} {I' : qTI} {L' : qTL} {D' : qTD} {R' : qTR} (hn : qcNF ≤ w.1) (hR : qc_FR R) (h : fX12_bitsOf w I L D R x1 x2 = some (r, I', L', D', R')) : qc_fm qcSM (I, L, D, R) (I', L', D', R') ∧ qc_V (2) 0 0 qmX12_bitsOf [.ref 291, .int x1, .int x2] w (I, L, D, R) (qc_eq (some (.long r)) w (I', L', D', R')) := by
  unfold fX12_bitsOf at h
  refine And.imp_right (fun hx => qc_V.of rfl rfl (Nat.le_of_ble_eq_true rfl) (lv := [(0, .ref 291), (1, .int x1), (2, .int x2)]) rfl hx) ?_
  refine And.imp_right (fun hx => qc_iload_n (qc_at qkX12_bitsOf 0 rfl) rfl <| qc_bipush (qc_at qkX12_bitsOf 1 rfl) <| hx) ?_
  refine qc_andN (qc_icmp_ne (qc_at qkX12_bitsOf 2 rfl)) (fun u1 => ?_) (fun u1 => ?_)
  · replace h := qc_jn u1 h
    refine And.imp_right (fun hx => qc_iload_n (qc_at qkX12_bitsOf 11 rfl) rfl <| qc_bipush (qc_at qkX12_bitsOf 12 rfl) <| hx) ?_
    refine qc_andN (qc_icmp_ne (qc_at qkX12_bitsOf 13 rfl)) (fun u2 => ?_) (fun u2 => ?_)
    · replace h := qc_jn u2 h
      refine And.imp_right (fun hx => qc_aload_n (qc_at qkX12_bitsOf 20 rfl) rfl <| qc_gR (qc_at qkX12_bitsOf 21 rfl) hn rfl (qfr_291_4 hR) rfl <| qc_iload_n (qc_at qkX12_bitsOf 22 rfl) rfl <| hx) ?_
      obtain ⟨g3, h⟩ := qc_gd_of h
      obtain ⟨rfl, rfl, rfl, rfl, rfl⟩ := qc_some5 h
      exact ⟨qc_fm.rf _, qc_lald 176 (qc_at qkX12_bitsOf 23 rfl) hn rfl (qc_inb_in g3) <| qc_lret (qc_at qkX12_bitsOf 24 rfl) rfl (Nat.le_refl _) (Nat.le_refl _) (qc_eq.rf _ _ _)⟩
    · replace h := qc_jp u2 h
      refine And.imp_right (fun hx => qc_aload_n (qc_at qkX12_bitsOf 14 rfl) rfl <| qc_gR (qc_at qkX12_bitsOf 15 rfl) hn rfl (qfr_291_5 hR) rfl <| qc_iload_n (qc_at qkX12_bitsOf 16 rfl) rfl <| hx) ?_
      obtain ⟨g4, h⟩ := qc_gd_of h
      refine And.imp_right (fun hx => qc_dald 176 (qc_at qkX12_bitsOf 17 rfl) hn rfl (qc_inb_in g4) <| hx) ?_
      obtain ⟨r5, I5, L5, D5, R5, e5, h⟩ := qc_bd_of h
      have c5 := (tJxe99ae_doubleToLongBits_ccdee (sd := qcSM) hn hR e5)
      refine qd_cSv (qc_at qkX12_bitsOf 18 rfl) ql_12_207 qfJxe99ae_doubleToLongBits_ccdee c5 rfl rfl (Nat.le_of_ble_eq_true rfl) (qc_rml (by decide) (by decide)) ⟨Nat.zero_le _, Nat.zero_le _⟩ ?_
      obtain ⟨rfl, rfl, rfl, rfl, rfl⟩ := qc_some5 h
      exact ⟨qc_fm.rf _, qc_goto (qc_at qkX12_bitsOf 19 rfl) <| qc_lret (qc_at qkX12_bitsOf 24 rfl) rfl (Nat.le_refl _) (Nat.le_refl _) (qc_eq.rf _ _ _)⟩
  · replace h := qc_jp u1 h
    refine And.imp_right (fun hx => qc_aload_n (qc_at qkX12_bitsOf 3 rfl) rfl <| qc_gR (qc_at qkX12_bitsOf 4 rfl) hn rfl (qfr_291_5 hR) rfl <| qc_iload_n (qc_at qkX12_bitsOf 5 rfl) rfl <| hx) ?_
    obtain ⟨g6, h⟩ := qc_gd_of h
    refine And.imp_right (fun hx => qc_dald 176 (qc_at qkX12_bitsOf 6 rfl) hn rfl (qc_inb_in g6) <| hx) ?_
    obtain ⟨g7, h⟩ := qc_gd_of h
    replace g7 := qc_n32_of g7
    refine And.imp_right (fun hx => qc_d2f (qc_at qkX12_bitsOf 7 rfl) g7 <| hx) ?_
    obtain ⟨r8, I8, L8, D8, R8, e8, h⟩ := qc_bd_of h
    have c8 := (tJxf58ca_floatToIntBits_5c35a (sd := qcSM) hn hR e8)
    refine qd_cSv (qc_at qkX12_bitsOf 8 rfl) ql_12_203 qfJxf58ca_floatToIntBits_5c35a c8 rfl rfl (Nat.le_of_ble_eq_true rfl) (qc_rml (by decide) (by decide)) ⟨Nat.zero_le _, Nat.zero_le _⟩ ?_
    obtain ⟨rfl, rfl, rfl, rfl, rfl⟩ := qc_some5 h
    exact ⟨qc_fm.rf _, qc_i2l (qc_at qkX12_bitsOf 9 rfl) <| qc_goto (qc_at qkX12_bitsOf 10 rfl) <| qc_lret (qc_at qkX12_bitsOf 24 rfl) rfl (Nat.le_refl _) (Nat.le_refl _) (qc_eq.rf _ _ _)⟩
def fX12_cell (w : qcW) (I : qTI) (L : qTL) (D : qTD) (R : qTR) (x1 : Int32) (x2 : Int32) : qcO Int64 :=
  (qc_bd (fX12_isColumn w I L D R x1) fun r1 I1 L1 D1 R1 => if r1 = true then (qc_gd (qc_inb x1 10) <| if (I1 292 (Int32.toNatClampNeg x1)) = (-1 : Int32) then (some ((-9223372036854775808 : Int64), I1, L1, D1, R1)) else (qc_gd (qc_inb x1 10) <| qc_gd (qc_inb (I1 292 (Int32.toNatClampNeg x1)) 11) <| qc_bd (fX12_in w I1 L1 D1 R1 (Int32.toInt64 x2) (0 : Int64) (Int32.toInt64 ((I1 294 (Int32.toNatClampNeg (I1 292 (Int32.toNatClampNeg x1)))) - (1 : Int32)))) fun r7 I7 L7 D7 R7 => if r7 = true then (qc_gd (qc_inb x1 10) <| qc_gd (qc_inb (I7 292 (Int32.toNatClampNeg x1)) 11) <| qc_gd (qc_inb x1 10) <| qc_bd (fX12_bitsOf w I7 L7 D7 R7 (I7 293 (Int32.toNatClampNeg (I7 292 (Int32.toNatClampNeg x1)))) (((16 : Int32) * (I7 292 (Int32.toNatClampNeg x1))) + x2)) fun r12 I12 L12 D12 R12 => some (r12, I12, L12, D12, R12)) else (some ((-9223372036854775808 : Int64), I7, L7, D7, R7)))) else (some ((-9223372036854775808 : Int64), I1, L1, D1, R1)))
set_option maxRecDepth 100000 in
set_option maxHeartbeats 4000000 in
theorem tX12_cell {w : qcW} {I : qTI} {L : qTL} {D : qTD} {R : qTR} {x1 : Int32} {x2 : Int32} {r : Int64} {I' : qTI} {L' : qTL} {D' : qTD} {R' : qTR} (hn : qcNF ≤ w.1) (hR : qc_FR R) (h : fX12_cell w I L D R x1 x2 = some (r, I', L', D', R')) : qc_fm qcSM (I, L, D, R) (I', L', D', R') ∧ qc_V (3) 0 0 qmX12_cell [.ref 291, .int x1, .int x2] w (I, L, D, R) (qc_eq (some (.long r)) w (I', L', D', R')) := by
  unfold fX12_cell at h
  refine And.imp_right (fun hx => qc_V.of rfl rfl (Nat.le_of_ble_eq_true rfl) (lv := [(0, .ref 291), (1, .int x1), (2, .int x2)]) rfl hx) ?_
  refine And.imp_right (fun hx => qc_iload_n (qc_at qkX12_cell 0 rfl) rfl <| hx) ?_
  obtain ⟨r1, I1, L1, D1, R1, e1, h⟩ := qc_bd_of h
  have c1 := (tX12_isColumn hn hR e1)
  refine qd_cSv (qc_at qkX12_cell 1 rfl) ql_12_171 qfX12_isColumn c1 rfl rfl (Nat.le_of_ble_eq_true rfl) (qc_rml (by decide) (by decide)) ⟨Nat.zero_le _, Nat.zero_le _⟩ ?_
  refine qc_andB (qc_ifB_eq (qc_at qkX12_cell 2 rfl)) (fun u2 => ?_) (fun u2 => ?_)
  · replace h := qc_jf u2 h
    obtain ⟨rfl, rfl, rfl, rfl, rfl⟩ := qc_some5 h
    exact ⟨qc_fm.rf _, qc_ldc2l (qc_at qkX12_cell 24 rfl) <| qc_lret (qc_at qkX12_cell 25 rfl) rfl (Nat.le_refl _) (Nat.le_refl _) (qc_eq.rf _ _ _)⟩
  · replace h := qc_jt u2 h
    refine And.imp_right (fun hx => qc_aload_n (qc_at qkX12_cell 3 rfl) rfl <| qc_gR (qc_at qkX12_cell 4 rfl) hn rfl (qfr_291_1 (c1.1.1 hR)) rfl <| qc_iload_n (qc_at qkX12_cell 5 rfl) rfl <| hx) ?_
    obtain ⟨g3, h⟩ := qc_gd_of h
    refine And.imp_right (fun hx => qc_iald 10 (qc_at qkX12_cell 6 rfl) hn rfl (qc_inb_in g3) <| qc_iconst (qc_at qkX12_cell 7 rfl) <| hx) ?_
    refine qc_andC (qc_icmp_eq (qc_at qkX12_cell 8 rfl)) (fun u4 => ?_) (fun u4 => ?_)
    · replace h := qc_jp u4 h
      obtain ⟨rfl, rfl, rfl, rfl, rfl⟩ := qc_some5 h
      exact ⟨qc_fm.rf _, qc_ldc2l (qc_at qkX12_cell 24 rfl) <| qc_lret (qc_at qkX12_cell 25 rfl) rfl (Nat.le_refl _) (Nat.le_refl _) (qc_eq.rf _ _ _)⟩
    · replace h := qc_jn u4 h
      refine And.imp_right (fun hx => qc_iload_n (qc_at qkX12_cell 9 rfl) rfl <| qc_i2l (qc_at qkX12_cell 10 rfl) <| qc_lconst (qc_at qkX12_cell 11 rfl) <| qc_aload_n (qc_at qkX12_cell 12 rfl) rfl <| qc_gR (qc_at qkX12_cell 13 rfl) hn rfl (qfr_291_3 (c1.1.1 hR)) rfl <| qc_aload_n (qc_at qkX12_cell 14 rfl) rfl <| qc_gR (qc_at qkX12_cell 15 rfl) hn rfl (qfr_291_1 (c1.1.1 hR)) rfl <| qc_iload_n (qc_at qkX12_cell 16 rfl) rfl <| hx) ?_
      obtain ⟨g5, h⟩ := qc_gd_of h
      refine And.imp_right (fun hx => qc_iald 10 (qc_at qkX12_cell 17 rfl) hn rfl (qc_inb_in g5) <| hx) ?_
      obtain ⟨g6, h⟩ := qc_gd_of h
      refine And.imp_right (fun hx => qc_iald 11 (qc_at qkX12_cell 18 rfl) hn rfl (qc_inb_in g6) <| qc_iconst (qc_at qkX12_cell 19 rfl) <| qc_isub (qc_at qkX12_cell 20 rfl) <| qc_i2l (qc_at qkX12_cell 21 rfl) <| hx) ?_
      obtain ⟨r7, I7, L7, D7, R7, e7, h⟩ := qc_bd_of h
      have c7 := (tX12_in hn (c1.1.1 hR) e7)
      refine qd_cSv (qc_at qkX12_cell 22 rfl) ql_12_162 qfX12_in c7 rfl rfl (Nat.le_of_ble_eq_true rfl) (qc_rml (by decide) (by decide)) ⟨Nat.zero_le _, Nat.zero_le _⟩ ?_
      refine qc_andBn (qc_ifB_ne (qc_at qkX12_cell 23 rfl)) (fun u8 => ?_) (fun u8 => ?_)
      · replace h := qc_jt u8 h
        refine And.imp_right (fun hx => qc_aload_n (qc_at qkX12_cell 26 rfl) rfl <| qc_aload_n (qc_at qkX12_cell 27 rfl) rfl <| qc_gR (qc_at qkX12_cell 28 rfl) hn rfl (qfr_291_2 (c7.1.1 (c1.1.1 hR))) rfl <| qc_aload_n (qc_at qkX12_cell 29 rfl) rfl <| qc_gR (qc_at qkX12_cell 30 rfl) hn rfl (qfr_291_1 (c7.1.1 (c1.1.1 hR))) rfl <| qc_iload_n (qc_at qkX12_cell 31 rfl) rfl <| hx) ?_
        obtain ⟨g9, h⟩ := qc_gd_of h
        refine And.imp_right (fun hx => qc_iald 10 (qc_at qkX12_cell 32 rfl) hn rfl (qc_inb_in g9) <| hx) ?_
        obtain ⟨g10, h⟩ := qc_gd_of h
        refine And.imp_right (fun hx => qc_iald 11 (qc_at qkX12_cell 33 rfl) hn rfl (qc_inb_in g10) <| qc_bipush (qc_at qkX12_cell 34 rfl) <| qc_aload_n (qc_at qkX12_cell 35 rfl) rfl <| qc_gR (qc_at qkX12_cell 36 rfl) hn rfl (qfr_291_1 (c7.1.1 (c1.1.1 hR))) rfl <| qc_iload_n (qc_at qkX12_cell 37 rfl) rfl <| hx) ?_
        obtain ⟨g11, h⟩ := qc_gd_of h
        refine And.imp_right (fun hx => qc_iald 10 (qc_at qkX12_cell 38 rfl) hn rfl (qc_inb_in g11) <| qc_imul (qc_at qkX12_cell 39 rfl) <| qc_iload_n (qc_at qkX12_cell 40 rfl) rfl <| qc_iadd (qc_at qkX12_cell 41 rfl) <| hx) ?_
        obtain ⟨r12, I12, L12, D12, R12, e12, h⟩ := qc_bd_of h
        have c12 := (tX12_bitsOf hn (c7.1.1 (c1.1.1 hR)) e12)
        refine qd_cVv (ci := 10) (a0 := 291) (qc_at qkX12_cell 42 rfl) ql_12_213 qfX12_bitsOf (qc_kf hn rfl) rfl c12 rfl rfl (Nat.le_of_ble_eq_true rfl) (qc_rml (by decide) (by decide)) ⟨Nat.zero_le _, Nat.zero_le _⟩ ?_
        obtain ⟨rfl, rfl, rfl, rfl, rfl⟩ := qc_some5 h
        exact ⟨qc_fm.rf _, qc_lret (qc_at qkX12_cell 43 rfl) rfl (Nat.le_refl _) (Nat.le_refl _) (qc_eq.rf _ _ _)⟩
      · replace h := qc_jf u8 h
        obtain ⟨rfl, rfl, rfl, rfl, rfl⟩ := qc_some5 h
        exact ⟨qc_fm.rf _, qc_ldc2l (qc_at qkX12_cell 24 rfl) <| qc_lret (qc_at qkX12_cell 25 rfl) rfl (Nat.le_refl _) (Nat.le_refl _) (qc_eq.rf _ _ _)⟩
def fX12_about_b29 (w : qcW) (k29 : qTI × qTL × qTD × qTR × Int32 × Int32 → qcO Int32) (I : qTI) (L : qTL) (D : qTD) (R : qTR) (x1 : Int32) (x3 : Int32) : qcO Int32 :=
  (qc_gd (qc_inb x3 10) <| qc_gd (qc_inb x1 10) <| if (I 292 (Int32.toNatClampNeg x3)) = (I 292 (Int32.toNatClampNeg x1)) then (some (x3, I, L, D, R)) else (k29 (I, L, D, R, x1, (x3 + (1)))))
set_option maxRecDepth 100000 in
set_option maxHeartbeats 4000000 in
theorem tX12_about_b29 {w : qcW} {I : qTI} {L : qTL} {D : qTD} {R : qTR} {k29 : qTI × qTL × qTD × qTR × Int32 × Int32 → qcO Int32} {x1 : Int32} {x3 : Int32} {r : Int32} {I' : qTI} {L' : qTL} {D' : qTD} {R' : qTR} (hn : qcNF ≤ w.1) (hR : qc_FR R) (hk29 : ∀ {I : qTI} {L : qTL} {D : qTD} {R : qTR} {x1 : Int32} {x3 : Int32} {r : Int32} {I' : qTI} {L' : qTL} {D' : qTD} {R' : qTR}, qc_FR R → k29 (I, L, D, R, x1, x3) = some (r, I', L', D', R') → qc_fm qcSM (I, L, D, R) (I', L', D', R') ∧ qc_X (qc_rm (2) 0 0) qmX12_about (qc_QM 0 0 (qc_eq (some (.int r)) w (I', L', D', R'))) 0 0 w (29, [(0, .ref 291), (1, .int x1), (3, .int x3)], [], I, L, D, R)) (h : fX12_about_b29 w k29 I L D R x1 x3 = some (r, I', L', D', R')) : qc_fm qcSM (I, L, D, R) (I', L', D', R') ∧ qc_X (qc_rm (2) 0 0) qmX12_about (qc_QM 0 0 (qc_eq (some (.int r)) w (I', L', D', R'))) 0 0 w (29, [(0, .ref 291), (1, .int x1), (3, .int x3)], [], I, L, D, R) := by
  unfold fX12_about_b29 at h
  refine And.imp_right (fun hx => qc_aload_n (qc_at qkX12_about 16 rfl) rfl <| qc_gR (qc_at qkX12_about 17 rfl) hn rfl (qfr_291_1 hR) rfl <| qc_iload_n (qc_at qkX12_about 18 rfl) rfl <| hx) ?_
  obtain ⟨g1, h⟩ := qc_gd_of h
  refine And.imp_right (fun hx => qc_iald 10 (qc_at qkX12_about 19 rfl) hn rfl (qc_inb_in g1) <| qc_aload_n (qc_at qkX12_about 20 rfl) rfl <| qc_gR (qc_at qkX12_about 21 rfl) hn rfl (qfr_291_1 hR) rfl <| qc_iload_n (qc_at qkX12_about 22 rfl) rfl <| hx) ?_
  obtain ⟨g2, h⟩ := qc_gd_of h
  refine And.imp_right (fun hx => qc_iald 10 (qc_at qkX12_about 23 rfl) hn rfl (qc_inb_in g2) <| hx) ?_
  refine qc_andC (qc_icmp_eq (qc_at qkX12_about 24 rfl)) (fun u3 => ?_) (fun u3 => ?_)
  · replace h := qc_jp u3 h
    obtain ⟨rfl, rfl, rfl, rfl, rfl⟩ := qc_some5 h
    exact ⟨qc_fm.rf _, qc_iload_n (qc_at qkX12_about 27 rfl) rfl <| qc_iret (qc_at qkX12_about 28 rfl) rfl (Nat.le_refl _) (Nat.le_refl _) (qc_eq.rf _ _ _)⟩
  · replace h := qc_jn u3 h
    exact And.imp_right (fun hx => qc_iinc (lv' := [(3, _), (0, _), (1, _)]) (qc_at qkX12_about 25 rfl) rfl rfl rfl <| qc_goto (qc_at qkX12_about 26 rfl) <| qc_sub [1, 2, 0] rfl hx) (hk29 hR h)
def fX12_about_l29 (w : qcW) : Nat → qTI × qTL × qTD × qTR × Int32 × Int32 → qcO Int32 := qc_lp (fun k q => match q with | (I, L, D, R, x1, x3) => fX12_about_b29 w k I L D R x1 x3)
set_option maxRecDepth 100000 in
set_option maxHeartbeats 4000000 in
theorem tX12_about_l29 {w : qcW} (hn : qcNF ≤ w.1) : ∀ (n : Nat) {r : Int32} {I' : qTI} {L' : qTL} {D' : qTD} {R' : qTR} {I : qTI} {L : qTL} {D : qTD} {R : qTR} {x1 : Int32} {x3 : Int32} (hR : qc_FR R) (h : fX12_about_l29 w n (I, L, D, R, x1, x3) = some (r, I', L', D', R')), qc_fm qcSM (I, L, D, R) (I', L', D', R') ∧ qc_X (qc_rm (2) 0 0) qmX12_about (qc_QM 0 0 (qc_eq (some (.int r)) w (I', L', D', R'))) 0 0 w (29, [(0, .ref 291), (1, .int x1), (3, .int x3)], [], I, L, D, R) := by
  intro n
  induction n with
  | zero => intro _ _ _ _ _ _ _ _ _ _ _ _ h; cases h
  | succ n ih => intro _ _ _ _ _ _ _ _ _ _ _ hR h; exact tX12_about_b29 hn hR (k29 := fX12_about_l29 w n) (fun hR h => ih hR h) h
def fX12_about (w : qcW) (I : qTI) (L : qTL) (D : qTD) (R : qTR) (x1 : Int32) (x2 : Int32) : qcO Int32 :=
  (qc_bd (fX12_isColumn w I L D R x1) fun r4 I4 L4 D4 R4 => if r4 = true then (qc_bd (fX12_in w I4 L4 D4 R4 (Int32.toInt64 x2) (0 : Int64) (2 : Int64)) fun r6 I6 L6 D6 R6 => if r6 = true then (if x2 = (2 : Int32) then (fX12_about_l29 w qcF (I6, L6, D6, R6, x1, (0 : Int32))) else (qc_gd (qc_inb x1 10) <| if (I6 292 (Int32.toNatClampNeg x1)) = (-1 : Int32) then (some ((-1 : Int32), I6, L6, D6, R6)) else (if x2 = 0 then (qc_gd (qc_inb x1 10) <| qc_gd (qc_inb (I6 292 (Int32.toNatClampNeg x1)) 11) <| some ((I6 293 (Int32.toNatClampNeg (I6 292 (Int32.toNatClampNeg x1)))), I6, L6, D6, R6)) else (qc_gd (qc_inb x1 10) <| qc_gd (qc_inb (I6 292 (Int32.toNatClampNeg x1)) 11) <| some ((I6 294 (Int32.toNatClampNeg (I6 292 (Int32.toNatClampNeg x1)))), I6, L6, D6, R6))))) else (some ((-2 : Int32), I6, L6, D6, R6))) else (some ((-2 : Int32), I4, L4, D4, R4)))
set_option maxRecDepth 100000 in
set_option maxHeartbeats 4000000 in
theorem tX12_about {w : qcW} {I : qTI} {L : qTL} {D : qTD} {R : qTR} {x1 : Int32} {x2 : Int32} {r : Int32} {I' : qTI} {L' : qTL} {D' : qTD} {R' : qTR} (hn : qcNF ≤ w.1) (hR : qc_FR R) (h : fX12_about w I L D R x1 x2 = some (r, I', L', D', R')) : qc_fm qcSM (I, L, D, R) (I', L', D', R') ∧ qc_V (2) 0 0 qmX12_about [.ref 291, .int x1, .int x2] w (I, L, D, R) (qc_eq (some (.int r)) w (I', L', D', R')) := by
  unfold fX12_about at h
  refine And.imp_right (fun hx => qc_V.of rfl rfl (Nat.le_of_ble_eq_true rfl) (lv := [(0, .ref 291), (1, .int x1), (2, .int x2)]) rfl hx) ?_
  refine And.imp_right (fun hx => qc_iload_n (qc_at qkX12_about 0 rfl) rfl <| hx) ?_
  obtain ⟨r4, I4, L4, D4, R4, e4, h⟩ := qc_bd_of h
  have c4 := (tX12_isColumn hn hR e4)
  refine qd_cSv (qc_at qkX12_about 1 rfl) ql_12_171 qfX12_isColumn c4 rfl rfl (Nat.le_of_ble_eq_true rfl) (qc_rml (by decide) (by decide)) ⟨Nat.zero_le _, Nat.zero_le _⟩ ?_
  refine qc_andB (qc_ifB_eq (qc_at qkX12_about 2 rfl)) (fun u5 => ?_) (fun u5 => ?_)
  · replace h := qc_jf u5 h
    obtain ⟨rfl, rfl, rfl, rfl, rfl⟩ := qc_some5 h
    exact ⟨qc_fm.rf _, qc_bipush (qc_at qkX12_about 9 rfl) <| qc_iret (qc_at qkX12_about 10 rfl) rfl (Nat.le_refl _) (Nat.le_refl _) (qc_eq.rf _ _ _)⟩
  · replace h := qc_jt u5 h
    refine And.imp_right (fun hx => qc_iload_n (qc_at qkX12_about 3 rfl) rfl <| qc_i2l (qc_at qkX12_about 4 rfl) <| qc_lconst (qc_at qkX12_about 5 rfl) <| qc_ldc2l (qc_at qkX12_about 6 rfl) <| hx) ?_
    obtain ⟨r6, I6, L6, D6, R6, e6, h⟩ := qc_bd_of h
    have c6 := (tX12_in hn (c4.1.1 hR) e6)
    refine qd_cSv (qc_at qkX12_about 7 rfl) ql_12_162 qfX12_in c6 rfl rfl (Nat.le_of_ble_eq_true rfl) (qc_rml (by decide) (by decide)) ⟨Nat.zero_le _, Nat.zero_le _⟩ ?_
    refine qc_andBn (qc_ifB_ne (qc_at qkX12_about 8 rfl)) (fun u7 => ?_) (fun u7 => ?_)
    · replace h := qc_jt u7 h
      refine And.imp_right (fun hx => qc_iload_n (qc_at qkX12_about 11 rfl) rfl <| qc_iconst (qc_at qkX12_about 12 rfl) <| hx) ?_
      refine qc_andN (qc_icmp_ne (qc_at qkX12_about 13 rfl)) (fun u8 => ?_) (fun u8 => ?_)
      · replace h := qc_jn u8 h
        refine And.imp_right (fun hx => qc_aload_n (qc_at qkX12_about 29 rfl) rfl <| qc_gR (qc_at qkX12_about 30 rfl) hn rfl (qfr_291_1 (c6.1.1 (c4.1.1 hR))) rfl <| qc_iload_n (qc_at qkX12_about 31 rfl) rfl <| hx) ?_
        obtain ⟨g9, h⟩ := qc_gd_of h
        refine And.imp_right (fun hx => qc_iald 10 (qc_at qkX12_about 32 rfl) hn rfl (qc_inb_in g9) <| qc_iconst (qc_at qkX12_about 33 rfl) <| hx) ?_
        refine qc_andN (qc_icmp_ne (qc_at qkX12_about 34 rfl)) (fun u10 => ?_) (fun u10 => ?_)
        · replace h := qc_jn u10 h
          refine And.imp_right (fun hx => qc_iload_n (qc_at qkX12_about 37 rfl) rfl <| hx) ?_
          refine qc_andN (qc_if_ne (qc_at qkX12_about 38 rfl)) (fun u11 => ?_) (fun u11 => ?_)
          · replace h := qc_jn u11 h
            refine And.imp_right (fun hx => qc_aload_n (qc_at qkX12_about 47 rfl) rfl <| qc_gR (qc_at qkX12_about 48 rfl) hn rfl (qfr_291_3 (c6.1.1 (c4.1.1 hR))) rfl <| qc_aload_n (qc_at qkX12_about 49 rfl) rfl <| qc_gR (qc_at qkX12_about 50 rfl) hn rfl (qfr_291_1 (c6.1.1 (c4.1.1 hR))) rfl <| qc_iload_n (qc_at qkX12_about 51 rfl) rfl <| hx) ?_
            obtain ⟨g12, h⟩ := qc_gd_of h
            refine And.imp_right (fun hx => qc_iald 10 (qc_at qkX12_about 52 rfl) hn rfl (qc_inb_in g12) <| hx) ?_
            obtain ⟨g13, h⟩ := qc_gd_of h
            obtain ⟨rfl, rfl, rfl, rfl, rfl⟩ := qc_some5 h
            exact ⟨qc_fm.rf _, qc_iald 11 (qc_at qkX12_about 53 rfl) hn rfl (qc_inb_in g13) <| qc_iret (qc_at qkX12_about 54 rfl) rfl (Nat.le_refl _) (Nat.le_refl _) (qc_eq.rf _ _ _)⟩
          · replace h := qc_jp u11 h
            refine And.imp_right (fun hx => qc_aload_n (qc_at qkX12_about 39 rfl) rfl <| qc_gR (qc_at qkX12_about 40 rfl) hn rfl (qfr_291_2 (c6.1.1 (c4.1.1 hR))) rfl <| qc_aload_n (qc_at qkX12_about 41 rfl) rfl <| qc_gR (qc_at qkX12_about 42 rfl) hn rfl (qfr_291_1 (c6.1.1 (c4.1.1 hR))) rfl <| qc_iload_n (qc_at qkX12_about 43 rfl) rfl <| hx) ?_
            obtain ⟨g14, h⟩ := qc_gd_of h
            refine And.imp_right (fun hx => qc_iald 10 (qc_at qkX12_about 44 rfl) hn rfl (qc_inb_in g14) <| hx) ?_
            obtain ⟨g15, h⟩ := qc_gd_of h
            obtain ⟨rfl, rfl, rfl, rfl, rfl⟩ := qc_some5 h
            exact ⟨qc_fm.rf _, qc_iald 11 (qc_at qkX12_about 45 rfl) hn rfl (qc_inb_in g15) <| qc_goto (qc_at qkX12_about 46 rfl) <| qc_iret (qc_at qkX12_about 54 rfl) rfl (Nat.le_refl _) (Nat.le_refl _) (qc_eq.rf _ _ _)⟩
        · replace h := qc_jp u10 h
          obtain ⟨rfl, rfl, rfl, rfl, rfl⟩ := qc_some5 h
          exact ⟨qc_fm.rf _, qc_iconst (qc_at qkX12_about 35 rfl) <| qc_goto (qc_at qkX12_about 36 rfl) <| qc_iret (qc_at qkX12_about 54 rfl) rfl (Nat.le_refl _) (Nat.le_refl _) (qc_eq.rf _ _ _)⟩
      · replace h := qc_jp u8 h
        exact And.imp_right (fun hx => qc_iconst (qc_at qkX12_about 14 rfl) <| qc_istore_n (lv' := [(3, _), (0, _), (1, _), (2, _)]) (qc_at qkX12_about 15 rfl) rfl rfl <| qc_sub [1, 2, 0] rfl hx) (tX12_about_l29 hn qcF (c6.1.1 (c4.1.1 hR)) h)
    · replace h := qc_jf u7 h
      obtain ⟨rfl, rfl, rfl, rfl, rfl⟩ := qc_some5 h
      exact ⟨qc_fm.rf _, qc_bipush (qc_at qkX12_about 9 rfl) <| qc_iret (qc_at qkX12_about 10 rfl) rfl (Nat.le_refl _) (Nat.le_refl _) (qc_eq.rf _ _ _)⟩
def fX12_four_b3 (w : qcW) (k3 : qTI × qTL × qTD × qTR × Int32 × Int32 → qcO Unit) (I : qTI) (L : qTL) (D : qTD) (R : qTR) (x1 : Int32) (x2 : Int32) : qcO Unit :=
  (if x2 < 0 then (some ((), I, L, D, R)) else (qc_gd (qc_inb (I 291 7) 400) <| k3 ((qc_u (qc_u I 297 (Int32.toNatClampNeg (I 291 7)) ((x1 >>> (x2 &&& 31)) &&& (255 : Int32))) 291 7 (((qc_u I 297 (Int32.toNatClampNeg (I 291 7)) ((x1 >>> (x2 &&& 31)) &&& (255 : Int32))) 291 7) + (1 : Int32))), L, D, R, x1, (x2 + (-8)))))
set_option maxRecDepth 100000 in
set_option maxHeartbeats 4000000 in
theorem tX12_four_b3 {w : qcW} {I : qTI} {L : qTL} {D : qTD} {R : qTR} {k3 : qTI × qTL × qTD × qTR × Int32 × Int32 → qcO Unit} {x1 : Int32} {x2 : Int32} {r : Unit} {I' : qTI} {L' : qTL} {D' : qTD} {R' : qTR} (hn : qcNF ≤ w.1) (hR : qc_FR R) (hk3 : ∀ {I : qTI} {L : qTL} {D : qTD} {R : qTR} {x1 : Int32} {x2 : Int32} {r : Unit} {I' : qTI} {L' : qTL} {D' : qTD} {R' : qTR}, qc_FR R → k3 (I, L, D, R, x1, x2) = some (r, I', L', D', R') → qc_fm qcSM (I, L, D, R) (I', L', D', R') ∧ qc_X (qc_rm (0) 0 0) qmX12_four (qc_QM 0 0 (qc_eq none w (I', L', D', R'))) 0 0 w (3, [(0, .ref 291), (1, .int x1), (2, .int x2)], [], I, L, D, R)) (h : fX12_four_b3 w k3 I L D R x1 x2 = some (r, I', L', D', R')) : qc_fm qcSM (I, L, D, R) (I', L', D', R') ∧ qc_X (qc_rm (0) 0 0) qmX12_four (qc_QM 0 0 (qc_eq none w (I', L', D', R'))) 0 0 w (3, [(0, .ref 291), (1, .int x1), (2, .int x2)], [], I, L, D, R) := by
  unfold fX12_four_b3 at h
  refine And.imp_right (fun hx => qc_iload_n (qc_at qkX12_four 2 rfl) rfl <| hx) ?_
  refine qc_andC (qc_if_lt (qc_at qkX12_four 3 rfl)) (fun u1 => ?_) (fun u1 => ?_)
  · replace h := qc_jp u1 h
    obtain ⟨rfl, rfl, rfl, rfl, rfl⟩ := qc_some5 h
    exact ⟨qc_fm.rf _, qc_vret (qc_at qkX12_four 22 rfl) rfl (Nat.le_refl _) (Nat.le_refl _) (qc_eq.rf _ _ _)⟩
  · replace h := qc_jn u1 h
    refine And.imp_right (fun hx => qc_aload_n (qc_at qkX12_four 4 rfl) rfl <| qc_gR (qc_at qkX12_four 5 rfl) hn rfl (qfr_291_6 hR) rfl <| qc_aload_n (qc_at qkX12_four 6 rfl) rfl <| qc_gI (qc_at qkX12_four 7 rfl) hn rfl <| qc_iload_n (qc_at qkX12_four 8 rfl) rfl <| qc_iload_n (qc_at qkX12_four 9 rfl) rfl <| qc_ishr (qc_at qkX12_four 10 rfl) <| qc_sipush (qc_at qkX12_four 11 rfl) <| qc_iand (qc_at qkX12_four 12 rfl) <| hx) ?_
    obtain ⟨g2, h⟩ := qc_gd_of h
    refine qd_iast 400 (qc_at qkX12_four 13 rfl) hn rfl (qc_inb_in g2) rfl ?_
    refine And.imp_right (fun hx => qc_aload_n (qc_at qkX12_four 14 rfl) rfl <| qc_dup (qc_at qkX12_four 15 rfl) rfl <| qc_gI (qc_at qkX12_four 16 rfl) hn rfl <| qc_iconst (qc_at qkX12_four 17 rfl) <| qc_iadd (qc_at qkX12_four 18 rfl) <| hx) (qd_pI (qc_at qkX12_four 19 rfl) hn rfl rfl ?_)
    exact And.imp_right (fun hx => qc_iinc (lv' := [(2, _), (0, _), (1, _)]) (qc_at qkX12_four 20 rfl) rfl rfl rfl <| qc_goto (qc_at qkX12_four 21 rfl) <| qc_sub [1, 2, 0] rfl hx) (hk3 hR h)
def fX12_four_l3 (w : qcW) : Nat → qTI × qTL × qTD × qTR × Int32 × Int32 → qcO Unit := qc_lp (fun k q => match q with | (I, L, D, R, x1, x2) => fX12_four_b3 w k I L D R x1 x2)
set_option maxRecDepth 100000 in
set_option maxHeartbeats 4000000 in
theorem tX12_four_l3 {w : qcW} (hn : qcNF ≤ w.1) : ∀ (n : Nat) {r : Unit} {I' : qTI} {L' : qTL} {D' : qTD} {R' : qTR} {I : qTI} {L : qTL} {D : qTD} {R : qTR} {x1 : Int32} {x2 : Int32} (hR : qc_FR R) (h : fX12_four_l3 w n (I, L, D, R, x1, x2) = some (r, I', L', D', R')), qc_fm qcSM (I, L, D, R) (I', L', D', R') ∧ qc_X (qc_rm (0) 0 0) qmX12_four (qc_QM 0 0 (qc_eq none w (I', L', D', R'))) 0 0 w (3, [(0, .ref 291), (1, .int x1), (2, .int x2)], [], I, L, D, R) := by
  intro n
  induction n with
  | zero => intro _ _ _ _ _ _ _ _ _ _ _ _ h; cases h
  | succ n ih => intro _ _ _ _ _ _ _ _ _ _ _ hR h; exact tX12_four_b3 hn hR (k3 := fX12_four_l3 w n) (fun hR h => ih hR h) h
def fX12_four (w : qcW) (I : qTI) (L : qTL) (D : qTD) (R : qTR) (x1 : Int32) : qcO Unit :=
  (fX12_four_l3 w qcF (I, L, D, R, x1, (24 : Int32)))
set_option maxRecDepth 100000 in
set_option maxHeartbeats 4000000 in
theorem tX12_four {w : qcW} {I : qTI} {L : qTL} {D : qTD} {R : qTR} {x1 : Int32} {r : Unit} {I' : qTI} {L' : qTL} {D' : qTD} {R' : qTR} (hn : qcNF ≤ w.1) (hR : qc_FR R) (h : fX12_four w I L D R x1 = some (r, I', L', D', R')) : qc_fm qcSM (I, L, D, R) (I', L', D', R') ∧ qc_V (0) 0 0 qmX12_four [.ref 291, .int x1] w (I, L, D, R) (qc_eq none w (I', L', D', R')) := by
  unfold fX12_four at h
  refine And.imp_right (fun hx => qc_V.of rfl rfl (Nat.le_of_ble_eq_true rfl) (lv := [(0, .ref 291), (1, .int x1)]) rfl hx) ?_
  exact And.imp_right (fun hx => qc_bipush (qc_at qkX12_four 0 rfl) <| qc_istore_n (lv' := [(2, _), (0, _), (1, _)]) (qc_at qkX12_four 1 rfl) rfl rfl <| qc_sub [1, 2, 0] rfl hx) (tX12_four_l3 hn qcF hR h)
def fX12_feed (w : qcW) (I : qTI) (L : qTL) (D : qTD) (R : qTR) (x1 : Int32) (x2 : Int32) (x3 : Int32) (x4 : Int32) (x5 : Int32) : qcO Int32 :=
  (if ((I 291 7) + (20 : Int32)) ≤ (400 : Int32) then (qc_bd (fX12_four w I L D R x1) fun r2 I2 L2 D2 R2 => qc_bd (fX12_four w I2 L2 D2 R2 x2) fun r3 I3 L3 D3 R3 => qc_bd (fX12_four w I3 L3 D3 R3 x3) fun r4 I4 L4 D4 R4 => qc_bd (fX12_four w I4 L4 D4 R4 x4) fun r5 I5 L5 D5 R5 => qc_bd (fX12_four w I5 L5 D5 R5 x5) fun r6 I6 L6 D6 R6 => some ((I6 291 7), I6, L6, D6, R6)) else (some ((-2 : Int32), I, L, D, R)))
set_option maxRecDepth 100000 in
set_option maxHeartbeats 4000000 in
theorem tX12_feed {w : qcW} {I : qTI} {L : qTL} {D : qTD} {R : qTR} {x1 : Int32} {x2 : Int32} {x3 : Int32} {x4 : Int32} {x5 : Int32} {r : Int32} {I' : qTI} {L' : qTL} {D' : qTD} {R' : qTR} (hn : qcNF ≤ w.1) (hR : qc_FR R) (h : fX12_feed w I L D R x1 x2 x3 x4 x5 = some (r, I', L', D', R')) : qc_fm qcSM (I, L, D, R) (I', L', D', R') ∧ qc_V (1) 0 0 qmX12_feed [.ref 291, .int x1, .int x2, .int x3, .int x4, .int x5] w (I, L, D, R) (qc_eq (some (.int r)) w (I', L', D', R')) := by
  unfold fX12_feed at h
  refine And.imp_right (fun hx => qc_V.of rfl rfl (Nat.le_of_ble_eq_true rfl) (lv := [(0, .ref 291), (1, .int x1), (2, .int x2), (3, .int x3), (4, .int x4), (5, .int x5)]) rfl hx) ?_
  refine And.imp_right (fun hx => qc_aload_n (qc_at qkX12_feed 0 rfl) rfl <| qc_gI (qc_at qkX12_feed 1 rfl) hn rfl <| qc_bipush (qc_at qkX12_feed 2 rfl) <| qc_iadd (qc_at qkX12_feed 3 rfl) <| qc_sipush (qc_at qkX12_feed 4 rfl) <| hx) ?_
  refine qc_andC (qc_icmp_le (qc_at qkX12_feed 5 rfl)) (fun u1 => ?_) (fun u1 => ?_)
  · replace h := qc_jp u1 h
    refine And.imp_right (fun hx => qc_aload_n (qc_at qkX12_feed 8 rfl) rfl <| qc_iload_n (qc_at qkX12_feed 9 rfl) rfl <| hx) ?_
    obtain ⟨r2, I2, L2, D2, R2, e2, h⟩ := qc_bd_of h
    have c2 := (tX12_four hn hR e2)
    refine qd_cVn (ci := 10) (a0 := 291) (qc_at qkX12_feed 10 rfl) ql_12_222 qfX12_four (qc_kf hn rfl) rfl c2 rfl rfl (Nat.le_of_ble_eq_true rfl) (qc_rml (by decide) (by decide)) ⟨Nat.zero_le _, Nat.zero_le _⟩ ?_
    refine And.imp_right (fun hx => qc_aload_n (qc_at qkX12_feed 11 rfl) rfl <| qc_iload_n (qc_at qkX12_feed 12 rfl) rfl <| hx) ?_
    obtain ⟨r3, I3, L3, D3, R3, e3, h⟩ := qc_bd_of h
    have c3 := (tX12_four hn (c2.1.1 hR) e3)
    refine qd_cVn (ci := 10) (a0 := 291) (qc_at qkX12_feed 13 rfl) ql_12_222 qfX12_four (qc_kf hn rfl) rfl c3 rfl rfl (Nat.le_of_ble_eq_true rfl) (qc_rml (by decide) (by decide)) ⟨Nat.zero_le _, Nat.zero_le _⟩ ?_
    refine And.imp_right (fun hx => qc_aload_n (qc_at qkX12_feed 14 rfl) rfl <| qc_iload_n (qc_at qkX12_feed 15 rfl) rfl <| hx) ?_
    obtain ⟨r4, I4, L4, D4, R4, e4, h⟩ := qc_bd_of h
    have c4 := (tX12_four hn (c3.1.1 (c2.1.1 hR)) e4)
    refine qd_cVn (ci := 10) (a0 := 291) (qc_at qkX12_feed 16 rfl) ql_12_222 qfX12_four (qc_kf hn rfl) rfl c4 rfl rfl (Nat.le_of_ble_eq_true rfl) (qc_rml (by decide) (by decide)) ⟨Nat.zero_le _, Nat.zero_le _⟩ ?_
    refine And.imp_right (fun hx => qc_aload_n (qc_at qkX12_feed 17 rfl) rfl <| qc_iload (qc_at qkX12_feed 18 rfl) rfl <| hx) ?_
    obtain ⟨r5, I5, L5, D5, R5, e5, h⟩ := qc_bd_of h
    have c5 := (tX12_four hn (c4.1.1 (c3.1.1 (c2.1.1 hR))) e5)
    refine qd_cVn (ci := 10) (a0 := 291) (qc_at qkX12_feed 19 rfl) ql_12_222 qfX12_four (qc_kf hn rfl) rfl c5 rfl rfl (Nat.le_of_ble_eq_true rfl) (qc_rml (by decide) (by decide)) ⟨Nat.zero_le _, Nat.zero_le _⟩ ?_
    refine And.imp_right (fun hx => qc_aload_n (qc_at qkX12_feed 20 rfl) rfl <| qc_iload (qc_at qkX12_feed 21 rfl) rfl <| hx) ?_
    obtain ⟨r6, I6, L6, D6, R6, e6, h⟩ := qc_bd_of h
    have c6 := (tX12_four hn (c5.1.1 (c4.1.1 (c3.1.1 (c2.1.1 hR)))) e6)
    refine qd_cVn (ci := 10) (a0 := 291) (qc_at qkX12_feed 22 rfl) ql_12_222 qfX12_four (qc_kf hn rfl) rfl c6 rfl rfl (Nat.le_of_ble_eq_true rfl) (qc_rml (by decide) (by decide)) ⟨Nat.zero_le _, Nat.zero_le _⟩ ?_
    obtain ⟨rfl, rfl, rfl, rfl, rfl⟩ := qc_some5 h
    exact ⟨qc_fm.rf _, qc_aload_n (qc_at qkX12_feed 23 rfl) rfl <| qc_gI (qc_at qkX12_feed 24 rfl) hn rfl <| qc_iret (qc_at qkX12_feed 25 rfl) rfl (Nat.le_refl _) (Nat.le_refl _) (qc_eq.rf _ _ _)⟩
  · replace h := qc_jn u1 h
    obtain ⟨rfl, rfl, rfl, rfl, rfl⟩ := qc_some5 h
    exact ⟨qc_fm.rf _, qc_bipush (qc_at qkX12_feed 6 rfl) <| qc_iret (qc_at qkX12_feed 7 rfl) rfl (Nat.le_refl _) (Nat.le_refl _) (qc_eq.rf _ _ _)⟩
def fX12_end (w : qcW) (I : qTI) (L : qTL) (D : qTD) (R : qTR) (x1 : Int32) : qcO Int32 :=
  (qc_bd (fX12_in w I L D R (Int32.toInt64 x1) (0 : Int64) (Int32.toInt64 (I 291 7))) fun r1 I1 L1 D1 R1 => if r1 = true then (some ((1 : Int32), (qc_u I1 291 7 x1), L1, D1, R1)) else (some ((-1 : Int32), I1, L1, D1, R1)))
set_option maxRecDepth 100000 in
set_option maxHeartbeats 4000000 in
theorem tX12_end {w : qcW} {I : qTI} {L : qTL} {D : qTD} {R : qTR} {x1 : Int32} {r : Int32} {I' : qTI} {L' : qTL} {D' : qTD} {R' : qTR} (hn : qcNF ≤ w.1) (hR : qc_FR R) (h : fX12_end w I L D R x1 = some (r, I', L', D', R')) : qc_fm qcSM (I, L, D, R) (I', L', D', R') ∧ qc_V (1) 0 0 qmX12_end [.ref 291, .int x1] w (I, L, D, R) (qc_eq (some (.int r)) w (I', L', D', R')) := by
  unfold fX12_end at h
  refine And.imp_right (fun hx => qc_V.of rfl rfl (Nat.le_of_ble_eq_true rfl) (lv := [(0, .ref 291), (1, .int x1)]) rfl hx) ?_
  refine And.imp_right (fun hx => qc_iload_n (qc_at qkX12_end 0 rfl) rfl <| qc_i2l (qc_at qkX12_end 1 rfl) <| qc_lconst (qc_at qkX12_end 2 rfl) <| qc_aload_n (qc_at qkX12_end 3 rfl) rfl <| qc_gI (qc_at qkX12_end 4 rfl) hn rfl <| qc_i2l (qc_at qkX12_end 5 rfl) <| hx) ?_
  obtain ⟨r1, I1, L1, D1, R1, e1, h⟩ := qc_bd_of h
  have c1 := (tX12_in hn hR e1)
  refine qd_cSv (qc_at qkX12_end 6 rfl) ql_12_162 qfX12_in c1 rfl rfl (Nat.le_of_ble_eq_true rfl) (qc_rml (by decide) (by decide)) ⟨Nat.zero_le _, Nat.zero_le _⟩ ?_
  refine qc_andBn (qc_ifB_ne (qc_at qkX12_end 7 rfl)) (fun u2 => ?_) (fun u2 => ?_)
  · replace h := qc_jt u2 h
    refine And.imp_right (fun hx => qc_aload_n (qc_at qkX12_end 10 rfl) rfl <| qc_iload_n (qc_at qkX12_end 11 rfl) rfl <| hx) (qd_pI (qc_at qkX12_end 12 rfl) hn rfl rfl ?_)
    obtain ⟨rfl, rfl, rfl, rfl, rfl⟩ := qc_some5 h
    exact ⟨qc_fm.rf _, qc_iconst (qc_at qkX12_end 13 rfl) <| qc_iret (qc_at qkX12_end 14 rfl) rfl (Nat.le_refl _) (Nat.le_refl _) (qc_eq.rf _ _ _)⟩
  · replace h := qc_jf u2 h
    obtain ⟨rfl, rfl, rfl, rfl, rfl⟩ := qc_some5 h
    exact ⟨qc_fm.rf _, qc_iconst (qc_at qkX12_end 8 rfl) <| qc_iret (qc_at qkX12_end 9 rfl) rfl (Nat.le_refl _) (Nat.le_refl _) (qc_eq.rf _ _ _)⟩
def fX12_fail (w : qcW) (I : qTI) (L : qTL) (D : qTD) (R : qTR) (x1 : Int32) (x2 : Int32) : qcO Unit :=
  (if (I 291 15) = 0 then (some ((), (qc_u (qc_u I 291 15 x1) 291 16 x2), L, D, R)) else (some ((), I, L, D, R)))
set_option maxRecDepth 100000 in
set_option maxHeartbeats 4000000 in
theorem tX12_fail {w : qcW} {I : qTI} {L : qTL} {D : qTD} {R : qTR} {x1 : Int32} {x2 : Int32} {r : Unit} {I' : qTI} {L' : qTL} {D' : qTD} {R' : qTR} (hn : qcNF ≤ w.1) (hR : qc_FR R) (h : fX12_fail w I L D R x1 x2 = some (r, I', L', D', R')) : qc_fm qcSM (I, L, D, R) (I', L', D', R') ∧ qc_V (0) 0 0 qmX12_fail [.ref 291, .int x1, .int x2] w (I, L, D, R) (qc_eq none w (I', L', D', R')) := by
  unfold fX12_fail at h
  refine And.imp_right (fun hx => qc_V.of rfl rfl (Nat.le_of_ble_eq_true rfl) (lv := [(0, .ref 291), (1, .int x1), (2, .int x2)]) rfl hx) ?_
  refine And.imp_right (fun hx => qc_aload_n (qc_at qkX12_fail 0 rfl) rfl <| qc_gI (qc_at qkX12_fail 1 rfl) hn rfl <| hx) ?_
  refine qc_andN (qc_if_ne (qc_at qkX12_fail 2 rfl)) (fun u1 => ?_) (fun u1 => ?_)
  · replace h := qc_jn u1 h
    obtain ⟨rfl, rfl, rfl, rfl, rfl⟩ := qc_some5 h
    exact ⟨qc_fm.rf _, qc_vret (qc_at qkX12_fail 9 rfl) rfl (Nat.le_refl _) (Nat.le_refl _) (qc_eq.rf _ _ _)⟩
  · replace h := qc_jp u1 h
    refine And.imp_right (fun hx => qc_aload_n (qc_at qkX12_fail 3 rfl) rfl <| qc_iload_n (qc_at qkX12_fail 4 rfl) rfl <| hx) (qd_pI (qc_at qkX12_fail 5 rfl) hn rfl rfl ?_)
    refine And.imp_right (fun hx => qc_aload_n (qc_at qkX12_fail 6 rfl) rfl <| qc_iload_n (qc_at qkX12_fail 7 rfl) rfl <| hx) (qd_pI (qc_at qkX12_fail 8 rfl) hn rfl rfl ?_)
    obtain ⟨rfl, rfl, rfl, rfl, rfl⟩ := qc_some5 h
    exact ⟨qc_fm.rf _, qc_vret (qc_at qkX12_fail 9 rfl) rfl (Nat.le_refl _) (Nat.le_refl _) (qc_eq.rf _ _ _)⟩
def fX12_byteAt (w : qcW) (I : qTI) (L : qTL) (D : qTD) (R : qTR) (x1 : Int32) : qcO Int32 :=
  (if (I 291 8) ≤ x1 then (some ((-1 : Int32), I, L, D, R)) else (qc_gd (qc_inb x1 400) <| some ((I 297 (Int32.toNatClampNeg x1)), I, L, D, R)))
set_option maxRecDepth 100000 in
set_option maxHeartbeats 4000000 in
theorem tX12_byteAt {w : qcW} {I : qTI} {L : qTL} {D : qTD} {R : qTR} {x1 : Int32} {r : Int32} {I' : qTI} {L' : qTL} {D' : qTD} {R' : qTR} (hn : qcNF ≤ w.1) (hR : qc_FR R) (h : fX12_byteAt w I L D R x1 = some (r, I', L', D', R')) : qc_fm qcSM (I, L, D, R) (I', L', D', R') ∧ qc_V (0) 0 0 qmX12_byteAt [.ref 291, .int x1] w (I, L, D, R) (qc_eq (some (.int r)) w (I', L', D', R')) := by
  unfold fX12_byteAt at h
  refine And.imp_right (fun hx => qc_V.of rfl rfl (Nat.le_of_ble_eq_true rfl) (lv := [(0, .ref 291), (1, .int x1)]) rfl hx) ?_
  refine And.imp_right (fun hx => qc_iload_n (qc_at qkX12_byteAt 0 rfl) rfl <| qc_aload_n (qc_at qkX12_byteAt 1 rfl) rfl <| qc_gI (qc_at qkX12_byteAt 2 rfl) hn rfl <| hx) ?_
  refine qc_andC (qc_icmp_ge (qc_at qkX12_byteAt 3 rfl)) (fun u1 => ?_) (fun u1 => ?_)
  · replace h := qc_jp u1 h
    obtain ⟨rfl, rfl, rfl, rfl, rfl⟩ := qc_some5 h
    exact ⟨qc_fm.rf _, qc_iconst (qc_at qkX12_byteAt 9 rfl) <| qc_iret (qc_at qkX12_byteAt 10 rfl) rfl (Nat.le_refl _) (Nat.le_refl _) (qc_eq.rf _ _ _)⟩
  · replace h := qc_jn u1 h
    refine And.imp_right (fun hx => qc_aload_n (qc_at qkX12_byteAt 4 rfl) rfl <| qc_gR (qc_at qkX12_byteAt 5 rfl) hn rfl (qfr_291_6 hR) rfl <| qc_iload_n (qc_at qkX12_byteAt 6 rfl) rfl <| hx) ?_
    obtain ⟨g2, h⟩ := qc_gd_of h
    obtain ⟨rfl, rfl, rfl, rfl, rfl⟩ := qc_some5 h
    exact ⟨qc_fm.rf _, qc_iald 400 (qc_at qkX12_byteAt 7 rfl) hn rfl (qc_inb_in g2) <| qc_goto (qc_at qkX12_byteAt 8 rfl) <| qc_iret (qc_at qkX12_byteAt 10 rfl) rfl (Nat.le_refl _) (Nat.le_refl _) (qc_eq.rf _ _ _)⟩
def fX12_isFigure (w : qcW) (I : qTI) (L : qTL) (D : qTD) (R : qTR) (x1 : Int32) : qcO Bool :=
  (qc_bd (fX12_byteAt w I L D R x1) fun r1 I1 L1 D1 R1 => qc_bd (fX12_in w I1 L1 D1 R1 (Int32.toInt64 r1) (48 : Int64) (57 : Int64)) fun r2 I2 L2 D2 R2 => some (r2, I2, L2, D2, R2))
set_option maxRecDepth 100000 in
set_option maxHeartbeats 4000000 in
theorem tX12_isFigure {w : qcW} {I : qTI} {L : qTL} {D : qTD} {R : qTR} {x1 : Int32} {r : Bool} {I' : qTI} {L' : qTL} {D' : qTD} {R' : qTR} (hn : qcNF ≤ w.1) (hR : qc_FR R) (h : fX12_isFigure w I L D R x1 = some (r, I', L', D', R')) : qc_fm qcSM (I, L, D, R) (I', L', D', R') ∧ qc_V (1) 0 0 qmX12_isFigure [.ref 291, .int x1] w (I, L, D, R) (qc_eq (some (.int (qc_b r))) w (I', L', D', R')) := by
  unfold fX12_isFigure at h
  refine And.imp_right (fun hx => qc_V.of rfl rfl (Nat.le_of_ble_eq_true rfl) (lv := [(0, .ref 291), (1, .int x1)]) rfl hx) ?_
  refine And.imp_right (fun hx => qc_aload_n (qc_at qkX12_isFigure 0 rfl) rfl <| qc_iload_n (qc_at qkX12_isFigure 1 rfl) rfl <| hx) ?_
  obtain ⟨r1, I1, L1, D1, R1, e1, h⟩ := qc_bd_of h
  have c1 := (tX12_byteAt hn hR e1)
  refine qd_cVv (ci := 10) (a0 := 291) (qc_at qkX12_isFigure 2 rfl) ql_12_235 qfX12_byteAt (qc_kf hn rfl) rfl c1 rfl rfl (Nat.le_of_ble_eq_true rfl) (qc_rml (by decide) (by decide)) ⟨Nat.zero_le _, Nat.zero_le _⟩ ?_
  refine And.imp_right (fun hx => qc_i2l (qc_at qkX12_isFigure 3 rfl) <| qc_ldc2l (qc_at qkX12_isFigure 4 rfl) <| qc_ldc2l (qc_at qkX12_isFigure 5 rfl) <| hx) ?_
  obtain ⟨r2, I2, L2, D2, R2, e2, h⟩ := qc_bd_of h
  have c2 := (tX12_in hn (c1.1.1 hR) e2)
  refine qd_cSv (qc_at qkX12_isFigure 6 rfl) ql_12_162 qfX12_in c2 rfl rfl (Nat.le_of_ble_eq_true rfl) (qc_rml (by decide) (by decide)) ⟨Nat.zero_le _, Nat.zero_le _⟩ ?_
  obtain ⟨rfl, rfl, rfl, rfl, rfl⟩ := qc_some5 h
  exact ⟨qc_fm.rf _, qc_zret (qc_at qkX12_isFigure 7 rfl) rfl (qc_b01 _) (Nat.le_refl _) (Nat.le_refl _) (qc_eq.rf _ _ _)⟩
def fX12_figures_b54 (w : qcW) (k12 : qTI × qTL × qTD × qTR × Int64 × Int32 → qcO Unit) (I : qTI) (L : qTL) (D : qTD) (R : qTR) (x3 : Int32) (s0 : Int64) : qcO Unit :=
  (k12 ((qc_u I 291 11 ((I 291 11) + (1 : Int32))), L, D, R, s0, (x3 + (1))))
set_option maxRecDepth 100000 in
set_option maxHeartbeats 4000000 in
theorem tX12_figures_b54 {w : qcW} {I : qTI} {L : qTL} {D : qTD} {R : qTR} {k12 : qTI × qTL × qTD × qTR × Int64 × Int32 → qcO Unit} {x3 : Int32} {s0 : Int64} {r : Unit} {I' : qTI} {L' : qTL} {D' : qTD} {R' : qTR} (hn : qcNF ≤ w.1) (hR : qc_FR R) (hk12 : ∀ {I : qTI} {L : qTL} {D : qTD} {R : qTR} {x1 : Int64} {x3 : Int32} {r : Unit} {I' : qTI} {L' : qTL} {D' : qTD} {R' : qTR}, qc_FR R → k12 (I, L, D, R, x1, x3) = some (r, I', L', D', R') → qc_fm qcSM (I, L, D, R) (I', L', D', R') ∧ qc_X (qc_rm (2) 0 0) qmX12_figures (qc_QM 0 0 (qc_eq none w (I', L', D', R'))) 0 0 w (12, [(0, .ref 291), (1, .long x1), (3, .int x3)], [], I, L, D, R)) (h : fX12_figures_b54 w k12 I L D R x3 s0 = some (r, I', L', D', R')) : qc_fm qcSM (I, L, D, R) (I', L', D', R') ∧ qc_X (qc_rm (2) 0 0) qmX12_figures (qc_QM 0 0 (qc_eq none w (I', L', D', R'))) 0 0 w (54, [(0, .ref 291), (3, .int x3)], [.long s0], I, L, D, R) := by
  unfold fX12_figures_b54 at h
  refine And.imp_right (fun hx => qc_lstore_n (lv' := [(1, _), (0, _), (3, _)]) (qc_at qkX12_figures 30 rfl) rfl rfl <| qc_iinc (lv' := [(3, _), (1, _), (0, _)]) (qc_at qkX12_figures 31 rfl) rfl rfl rfl <| qc_aload_n (qc_at qkX12_figures 32 rfl) rfl <| qc_dup (qc_at qkX12_figures 33 rfl) rfl <| qc_gI (qc_at qkX12_figures 34 rfl) hn rfl <| qc_iconst (qc_at qkX12_figures 35 rfl) <| qc_iadd (qc_at qkX12_figures 36 rfl) <| hx) (qd_pI (qc_at qkX12_figures 37 rfl) hn rfl rfl ?_)
  exact And.imp_right (fun hx => qc_goto (qc_at qkX12_figures 38 rfl) <| qc_sub [2, 1, 0] rfl hx) (hk12 hR h)
def fX12_figures_b97 (w : qcW) (I : qTI) (L : qTL) (D : qTD) (R : qTR) (x1 : Int64) : qcO Unit :=
  (if (lg_cmp x1 (2147483647 : Int64)) ≤ 0 then (some ((), (qc_u (qc_u I 291 9 (2 : Int32)) 291 13 (Int64.toInt32 x1)), L, D, R)) else (qc_bd (fX12_fail w (qc_u (qc_u I 291 9 (2 : Int32)) 291 13 (Int64.toInt32 x1)) L D R (1 : Int32) ((qc_u (qc_u I 291 9 (2 : Int32)) 291 13 (Int64.toInt32 x1)) 291 10)) fun r2 I2 L2 D2 R2 => some ((), I2, L2, D2, R2)))
set_option maxRecDepth 100000 in
set_option maxHeartbeats 4000000 in
theorem tX12_figures_b97 {w : qcW} {I : qTI} {L : qTL} {D : qTD} {R : qTR} {x1 : Int64} {r : Unit} {I' : qTI} {L' : qTL} {D' : qTD} {R' : qTR} (hn : qcNF ≤ w.1) (hR : qc_FR R) (h : fX12_figures_b97 w I L D R x1 = some (r, I', L', D', R')) : qc_fm qcSM (I, L, D, R) (I', L', D', R') ∧ qc_X (qc_rm (2) 0 0) qmX12_figures (qc_QM 0 0 (qc_eq none w (I', L', D', R'))) 0 0 w (97, [(0, .ref 291), (1, .long x1)], [], I, L, D, R) := by
  unfold fX12_figures_b97 at h
  refine And.imp_right (fun hx => qc_aload_n (qc_at qkX12_figures 52 rfl) rfl <| qc_iconst (qc_at qkX12_figures 53 rfl) <| hx) (qd_pI (qc_at qkX12_figures 54 rfl) hn rfl rfl ?_)
  refine And.imp_right (fun hx => qc_aload_n (qc_at qkX12_figures 55 rfl) rfl <| qc_lload_n (qc_at qkX12_figures 56 rfl) rfl <| qc_l2i (qc_at qkX12_figures 57 rfl) <| hx) (qd_pI (qc_at qkX12_figures 58 rfl) hn rfl rfl ?_)
  refine And.imp_right (fun hx => qc_lload_n (qc_at qkX12_figures 59 rfl) rfl <| qc_ldc2l (qc_at qkX12_figures 60 rfl) <| qc_lcmp (qc_at qkX12_figures 61 rfl) <| hx) ?_
  refine qc_andC (qc_if_le (qc_at qkX12_figures 62 rfl)) (fun u1 => ?_) (fun u1 => ?_)
  · replace h := qc_jp u1 h
    obtain ⟨rfl, rfl, rfl, rfl, rfl⟩ := qc_some5 h
    exact ⟨qc_fm.rf _, qc_vret (qc_at qkX12_figures 68 rfl) rfl (Nat.le_refl _) (Nat.le_refl _) (qc_eq.rf _ _ _)⟩
  · replace h := qc_jn u1 h
    refine And.imp_right (fun hx => qc_aload_n (qc_at qkX12_figures 63 rfl) rfl <| qc_iconst (qc_at qkX12_figures 64 rfl) <| qc_aload_n (qc_at qkX12_figures 65 rfl) rfl <| qc_gI (qc_at qkX12_figures 66 rfl) hn rfl <| hx) ?_
    obtain ⟨r2, I2, L2, D2, R2, e2, h⟩ := qc_bd_of h
    have c2 := (tX12_fail hn hR e2)
    refine qd_cVn (ci := 10) (a0 := 291) (qc_at qkX12_figures 67 rfl) ql_12_268 qfX12_fail (qc_kf hn rfl) rfl c2 rfl rfl (Nat.le_of_ble_eq_true rfl) (qc_rml (by decide) (by decide)) ⟨Nat.zero_le _, Nat.zero_le _⟩ ?_
    obtain ⟨rfl, rfl, rfl, rfl, rfl⟩ := qc_some5 h
    exact ⟨qc_fm.rf _, qc_vret (qc_at qkX12_figures 68 rfl) rfl (Nat.le_refl _) (Nat.le_refl _) (qc_eq.rf _ _ _)⟩
def fX12_figures_b181 (w : qcW) (k139 : qTI × qTL × qTD × qTR × Int64 × Int32 × Int32 → qcO Unit) (I : qTI) (L : qTL) (D : qTD) (R : qTR) (x3 : Int32) (x4 : Int32) (s0 : Int64) : qcO Unit :=
  (k139 ((qc_u I 291 11 ((I 291 11) + (1 : Int32))), L, D, R, s0, (x3 + (1)), (x4 + (1))))
set_option maxRecDepth 100000 in
set_option maxHeartbeats 4000000 in
theorem tX12_figures_b181 {w : qcW} {I : qTI} {L : qTL} {D : qTD} {R : qTR} {k139 : qTI × qTL × qTD × qTR × Int64 × Int32 × Int32 → qcO Unit} {x3 : Int32} {x4 : Int32} {s0 : Int64} {r : Unit} {I' : qTI} {L' : qTL} {D' : qTD} {R' : qTR} (hn : qcNF ≤ w.1) (hR : qc_FR R) (hk139 : ∀ {I : qTI} {L : qTL} {D : qTD} {R : qTR} {x1 : Int64} {x3 : Int32} {x4 : Int32} {r : Unit} {I' : qTI} {L' : qTL} {D' : qTD} {R' : qTR}, qc_FR R → k139 (I, L, D, R, x1, x3, x4) = some (r, I', L', D', R') → qc_fm qcSM (I, L, D, R) (I', L', D', R') ∧ qc_X (qc_rm (2) 0 0) qmX12_figures (qc_QM 0 0 (qc_eq none w (I', L', D', R'))) 0 0 w (139, [(0, .ref 291), (1, .long x1), (3, .int x3), (4, .int x4)], [], I, L, D, R)) (h : fX12_figures_b181 w k139 I L D R x3 x4 s0 = some (r, I', L', D', R')) : qc_fm qcSM (I, L, D, R) (I', L', D', R') ∧ qc_X (qc_rm (2) 0 0) qmX12_figures (qc_QM 0 0 (qc_eq none w (I', L', D', R'))) 0 0 w (181, [(0, .ref 291), (3, .int x3), (4, .int x4)], [.long s0], I, L, D, R) := by
  unfold fX12_figures_b181 at h
  refine And.imp_right (fun hx => qc_lstore_n (lv' := [(1, _), (0, _), (3, _), (4, _)]) (qc_at qkX12_figures 99 rfl) rfl rfl <| qc_iinc (lv' := [(3, _), (1, _), (0, _), (4, _)]) (qc_at qkX12_figures 100 rfl) rfl rfl rfl <| qc_iinc (lv' := [(4, _), (3, _), (1, _), (0, _)]) (qc_at qkX12_figures 101 rfl) rfl rfl rfl <| qc_aload_n (qc_at qkX12_figures 102 rfl) rfl <| qc_dup (qc_at qkX12_figures 103 rfl) rfl <| qc_gI (qc_at qkX12_figures 104 rfl) hn rfl <| qc_iconst (qc_at qkX12_figures 105 rfl) <| qc_iadd (qc_at qkX12_figures 106 rfl) <| hx) (qd_pI (qc_at qkX12_figures 107 rfl) hn rfl rfl ?_)
  exact And.imp_right (fun hx => qc_goto (qc_at qkX12_figures 108 rfl) <| qc_sub [3, 2, 1, 0] rfl hx) (hk139 hR h)
def fX12_figures_b240 (w : qcW) (I : qTI) (L : qTL) (D : qTD) (R : qTR) (x1 : Int64) (x3 : Int32) (x5 : UInt64) : qcO Unit :=
  (qc_gd (qc_n64 (FP.ddiv (FP.l2d x1) x5)) <| if x3 ≤ (9 : Int32) then (some ((), I, L, (qc_u D 291 14 (FP.ddiv (FP.l2d x1) x5)), R)) else (qc_bd (fX12_fail w I L (qc_u D 291 14 (FP.ddiv (FP.l2d x1) x5)) R (1 : Int32) (I 291 10)) fun r5 I5 L5 D5 R5 => some ((), I5, L5, D5, R5)))
set_option maxRecDepth 100000 in
set_option maxHeartbeats 4000000 in
theorem tX12_figures_b240 {w : qcW} {I : qTI} {L : qTL} {D : qTD} {R : qTR} {x1 : Int64} {x3 : Int32} {x5 : UInt64} {r : Unit} {I' : qTI} {L' : qTL} {D' : qTD} {R' : qTR} (hn : qcNF ≤ w.1) (hR : qc_FR R) (h : fX12_figures_b240 w I L D R x1 x3 x5 = some (r, I', L', D', R')) : qc_fm qcSM (I, L, D, R) (I', L', D', R') ∧ qc_X (qc_rm (2) 0 0) qmX12_figures (qc_QM 0 0 (qc_eq none w (I', L', D', R'))) 0 0 w (240, [(0, .ref 291), (1, .long x1), (3, .int x3), (5, .double x5)], [], I, L, D, R) := by
  unfold fX12_figures_b240 at h
  refine And.imp_right (fun hx => qc_aload_n (qc_at qkX12_figures 128 rfl) rfl <| qc_lload_n (qc_at qkX12_figures 129 rfl) rfl <| qc_l2d (qc_at qkX12_figures 130 rfl) <| qc_dload (qc_at qkX12_figures 131 rfl) rfl <| hx) ?_
  obtain ⟨g3, h⟩ := qc_gd_of h
  replace g3 := qc_n64_of g3
  refine And.imp_right (fun hx => qc_ddiv (qc_at qkX12_figures 132 rfl) g3 <| hx) (qd_pD (qc_at qkX12_figures 133 rfl) hn rfl rfl ?_)
  refine And.imp_right (fun hx => qc_iload_n (qc_at qkX12_figures 134 rfl) rfl <| qc_bipush (qc_at qkX12_figures 135 rfl) <| hx) ?_
  refine qc_andC (qc_icmp_le (qc_at qkX12_figures 136 rfl)) (fun u4 => ?_) (fun u4 => ?_)
  · replace h := qc_jp u4 h
    obtain ⟨rfl, rfl, rfl, rfl, rfl⟩ := qc_some5 h
    exact ⟨qc_fm.rf _, qc_vret (qc_at qkX12_figures 142 rfl) rfl (Nat.le_refl _) (Nat.le_refl _) (qc_eq.rf _ _ _)⟩
  · replace h := qc_jn u4 h
    refine And.imp_right (fun hx => qc_aload_n (qc_at qkX12_figures 137 rfl) rfl <| qc_iconst (qc_at qkX12_figures 138 rfl) <| qc_aload_n (qc_at qkX12_figures 139 rfl) rfl <| qc_gI (qc_at qkX12_figures 140 rfl) hn rfl <| hx) ?_
    obtain ⟨r5, I5, L5, D5, R5, e5, h⟩ := qc_bd_of h
    have c5 := (tX12_fail hn hR e5)
    refine qd_cVn (ci := 10) (a0 := 291) (qc_at qkX12_figures 141 rfl) ql_12_268 qfX12_fail (qc_kf hn rfl) rfl c5 rfl rfl (Nat.le_of_ble_eq_true rfl) (qc_rml (by decide) (by decide)) ⟨Nat.zero_le _, Nat.zero_le _⟩ ?_
    obtain ⟨rfl, rfl, rfl, rfl, rfl⟩ := qc_some5 h
    exact ⟨qc_fm.rf _, qc_vret (qc_at qkX12_figures 142 rfl) rfl (Nat.le_refl _) (Nat.le_refl _) (qc_eq.rf _ _ _)⟩
def fX12_figures_b212 (w : qcW) (k212 : qTI × qTL × qTD × qTR × Int64 × Int32 × Int32 × UInt64 × Int32 → qcO Unit) (I : qTI) (L : qTL) (D : qTD) (R : qTR) (x1 : Int64) (x3 : Int32) (x4 : Int32) (x5 : UInt64) (x7 : Int32) : qcO Unit :=
  (if x4 ≤ x7 then (fX12_figures_b240 w I L D R x1 x3 x5) else (if (12 : Int32) ≤ x7 then (fX12_figures_b240 w I L D R x1 x3 x5) else (qc_gd (qc_n64 (FP.dmul x5 (4621819117588971520 : UInt64))) <| k212 (I, L, D, R, x1, x3, x4, (FP.dmul x5 (4621819117588971520 : UInt64)), (x7 + (1))))))
set_option maxRecDepth 100000 in
set_option maxHeartbeats 4000000 in
theorem tX12_figures_b212 {w : qcW} {I : qTI} {L : qTL} {D : qTD} {R : qTR} {k212 : qTI × qTL × qTD × qTR × Int64 × Int32 × Int32 × UInt64 × Int32 → qcO Unit} {x1 : Int64} {x3 : Int32} {x4 : Int32} {x5 : UInt64} {x7 : Int32} {r : Unit} {I' : qTI} {L' : qTL} {D' : qTD} {R' : qTR} (hn : qcNF ≤ w.1) (hR : qc_FR R) (hk212 : ∀ {I : qTI} {L : qTL} {D : qTD} {R : qTR} {x1 : Int64} {x3 : Int32} {x4 : Int32} {x5 : UInt64} {x7 : Int32} {r : Unit} {I' : qTI} {L' : qTL} {D' : qTD} {R' : qTR}, qc_FR R → k212 (I, L, D, R, x1, x3, x4, x5, x7) = some (r, I', L', D', R') → qc_fm qcSM (I, L, D, R) (I', L', D', R') ∧ qc_X (qc_rm (2) 0 0) qmX12_figures (qc_QM 0 0 (qc_eq none w (I', L', D', R'))) 0 0 w (212, [(0, .ref 291), (1, .long x1), (3, .int x3), (4, .int x4), (5, .double x5), (7, .int x7)], [], I, L, D, R)) (h : fX12_figures_b212 w k212 I L D R x1 x3 x4 x5 x7 = some (r, I', L', D', R')) : qc_fm qcSM (I, L, D, R) (I', L', D', R') ∧ qc_X (qc_rm (2) 0 0) qmX12_figures (qc_QM 0 0 (qc_eq none w (I', L', D', R'))) 0 0 w (212, [(0, .ref 291), (1, .long x1), (3, .int x3), (4, .int x4), (5, .double x5), (7, .int x7)], [], I, L, D, R) := by
  unfold fX12_figures_b212 at h
  refine And.imp_right (fun hx => qc_iload (qc_at qkX12_figures 116 rfl) rfl <| qc_iload (qc_at qkX12_figures 117 rfl) rfl <| hx) ?_
  refine qc_andC (qc_icmp_ge (qc_at qkX12_figures 118 rfl)) (fun u6 => ?_) (fun u6 => ?_)
  · replace h := qc_jp u6 h
    exact And.imp_right (fun hx => qc_sub [0, 1, 2, 4] rfl hx) (tX12_figures_b240 hn hR h)
  · replace h := qc_jn u6 h
    refine And.imp_right (fun hx => qc_iload (qc_at qkX12_figures 119 rfl) rfl <| qc_bipush (qc_at qkX12_figures 120 rfl) <| hx) ?_
    refine qc_andC (qc_icmp_ge (qc_at qkX12_figures 121 rfl)) (fun u7 => ?_) (fun u7 => ?_)
    · replace h := qc_jp u7 h
      exact And.imp_right (fun hx => qc_sub [0, 1, 2, 4] rfl hx) (tX12_figures_b240 hn hR h)
    · replace h := qc_jn u7 h
      refine And.imp_right (fun hx => qc_dload (qc_at qkX12_figures 122 rfl) rfl <| qc_ldc2d (qc_at qkX12_figures 123 rfl) <| hx) ?_
      obtain ⟨g8, h⟩ := qc_gd_of h
      replace g8 := qc_n64_of g8
      exact And.imp_right (fun hx => qc_dmul (qc_at qkX12_figures 124 rfl) g8 <| qc_dstore (lv' := [(5, _), (0, _), (1, _), (3, _), (4, _), (7, _)]) (qc_at qkX12_figures 125 rfl) rfl rfl <| qc_iinc (lv' := [(7, _), (5, _), (0, _), (1, _), (3, _), (4, _)]) (qc_at qkX12_figures 126 rfl) rfl rfl rfl <| qc_goto (qc_at qkX12_figures 127 rfl) <| qc_sub [2, 3, 4, 5, 1, 0] rfl hx) (hk212 hR h)
def fX12_figures_l212 (w : qcW) : Nat → qTI × qTL × qTD × qTR × Int64 × Int32 × Int32 × UInt64 × Int32 → qcO Unit := qc_lp (fun k q => match q with | (I, L, D, R, x1, x3, x4, x5, x7) => fX12_figures_b212 w k I L D R x1 x3 x4 x5 x7)
set_option maxRecDepth 100000 in
set_option maxHeartbeats 4000000 in
theorem tX12_figures_l212 {w : qcW} (hn : qcNF ≤ w.1) : ∀ (n : Nat) {r : Unit} {I' : qTI} {L' : qTL} {D' : qTD} {R' : qTR} {I : qTI} {L : qTL} {D : qTD} {R : qTR} {x1 : Int64} {x3 : Int32} {x4 : Int32} {x5 : UInt64} {x7 : Int32} (hR : qc_FR R) (h : fX12_figures_l212 w n (I, L, D, R, x1, x3, x4, x5, x7) = some (r, I', L', D', R')), qc_fm qcSM (I, L, D, R) (I', L', D', R') ∧ qc_X (qc_rm (2) 0 0) qmX12_figures (qc_QM 0 0 (qc_eq none w (I', L', D', R'))) 0 0 w (212, [(0, .ref 291), (1, .long x1), (3, .int x3), (4, .int x4), (5, .double x5), (7, .int x7)], [], I, L, D, R) := by
  intro n
  induction n with
  | zero => intro _ _ _ _ _ _ _ _ _ _ _ _ _ _ _ h; cases h
  | succ n ih => intro _ _ _ _ _ _ _ _ _ _ _ _ _ _ hR h; exact tX12_figures_b212 hn hR (k212 := fX12_figures_l212 w n) (fun hR h => ih hR h) h
def fX12_figures_b139 (w : qcW) (k139 : qTI × qTL × qTD × qTR × Int64 × Int32 × Int32 → qcO Unit) (I : qTI) (L : qTL) (D : qTD) (R : qTR) (x1 : Int64) (x3 : Int32) (x4 : Int32) : qcO Unit :=
  (qc_bd (fX12_isFigure w I L D R (I 291 11)) fun r9 I9 L9 D9 R9 => if r9 = true then (if (lg_cmp x1 (99999999999 : Int64)) ≤ 0 then (qc_bd (fX12_byteAt w I9 L9 D9 R9 (I9 291 11)) fun r12 I12 L12 D12 R12 => fX12_figures_b181 w k139 I12 L12 D12 R12 x3 x4 ((((10 : Int64) * x1) + (Int32.toInt64 r12)) - (48 : Int64))) else (fX12_figures_b181 w k139 I9 L9 D9 R9 x3 x4 x1)) else (fX12_figures_l212 w qcF ((qc_u I9 291 9 (3 : Int32)), L9, D9, R9, x1, x3, x4, (4607182418800017408 : UInt64), (0 : Int32))))
set_option maxRecDepth 100000 in
set_option maxHeartbeats 4000000 in
theorem tX12_figures_b139 {w : qcW} {I : qTI} {L : qTL} {D : qTD} {R : qTR} {k139 : qTI × qTL × qTD × qTR × Int64 × Int32 × Int32 → qcO Unit} {x1 : Int64} {x3 : Int32} {x4 : Int32} {r : Unit} {I' : qTI} {L' : qTL} {D' : qTD} {R' : qTR} (hn : qcNF ≤ w.1) (hR : qc_FR R) (hk139 : ∀ {I : qTI} {L : qTL} {D : qTD} {R : qTR} {x1 : Int64} {x3 : Int32} {x4 : Int32} {r : Unit} {I' : qTI} {L' : qTL} {D' : qTD} {R' : qTR}, qc_FR R → k139 (I, L, D, R, x1, x3, x4) = some (r, I', L', D', R') → qc_fm qcSM (I, L, D, R) (I', L', D', R') ∧ qc_X (qc_rm (2) 0 0) qmX12_figures (qc_QM 0 0 (qc_eq none w (I', L', D', R'))) 0 0 w (139, [(0, .ref 291), (1, .long x1), (3, .int x3), (4, .int x4)], [], I, L, D, R)) (h : fX12_figures_b139 w k139 I L D R x1 x3 x4 = some (r, I', L', D', R')) : qc_fm qcSM (I, L, D, R) (I', L', D', R') ∧ qc_X (qc_rm (2) 0 0) qmX12_figures (qc_QM 0 0 (qc_eq none w (I', L', D', R'))) 0 0 w (139, [(0, .ref 291), (1, .long x1), (3, .int x3), (4, .int x4)], [], I, L, D, R) := by
  unfold fX12_figures_b139 at h
  refine And.imp_right (fun hx => qc_aload_n (qc_at qkX12_figures 77 rfl) rfl <| qc_aload_n (qc_at qkX12_figures 78 rfl) rfl <| qc_gI (qc_at qkX12_figures 79 rfl) hn rfl <| hx) ?_
  obtain ⟨r9, I9, L9, D9, R9, e9, h⟩ := qc_bd_of h
  have c9 := (tX12_isFigure hn hR e9)
  refine qd_cVv (ci := 10) (a0 := 291) (qc_at qkX12_figures 80 rfl) ql_12_265 qfX12_isFigure (qc_kf hn rfl) rfl c9 rfl rfl (Nat.le_of_ble_eq_true rfl) (qc_rml (by decide) (by decide)) ⟨Nat.zero_le _, Nat.zero_le _⟩ ?_
  refine qc_andB (qc_ifB_eq (qc_at qkX12_figures 81 rfl)) (fun u10 => ?_) (fun u10 => ?_)
  · replace h := qc_jf u10 h
    refine And.imp_right (fun hx => qc_aload_n (qc_at qkX12_figures 109 rfl) rfl <| qc_iconst (qc_at qkX12_figures 110 rfl) <| hx) (qd_pI (qc_at qkX12_figures 111 rfl) hn rfl rfl ?_)
    exact And.imp_right (fun hx => qc_dconst (qc_at qkX12_figures 112 rfl) <| qc_dstore (lv' := [(5, _), (0, _), (1, _), (3, _), (4, _)]) (qc_at qkX12_figures 113 rfl) rfl rfl <| qc_iconst (qc_at qkX12_figures 114 rfl) <| qc_istore (lv' := [(7, _), (5, _), (0, _), (1, _), (3, _), (4, _)]) (qc_at qkX12_figures 115 rfl) rfl rfl <| qc_sub [2, 3, 4, 5, 1, 0] rfl hx) (tX12_figures_l212 hn qcF (c9.1.1 hR) h)
  · replace h := qc_jt u10 h
    refine And.imp_right (fun hx => qc_lload_n (qc_at qkX12_figures 82 rfl) rfl <| qc_ldc2l (qc_at qkX12_figures 83 rfl) <| qc_lcmp (qc_at qkX12_figures 84 rfl) <| hx) ?_
    refine qc_andC (qc_if_le (qc_at qkX12_figures 85 rfl)) (fun u11 => ?_) (fun u11 => ?_)
    · replace h := qc_jp u11 h
      refine And.imp_right (fun hx => qc_ldc2l (qc_at qkX12_figures 88 rfl) <| qc_lload_n (qc_at qkX12_figures 89 rfl) rfl <| qc_lmul (qc_at qkX12_figures 90 rfl) <| qc_aload_n (qc_at qkX12_figures 91 rfl) rfl <| qc_aload_n (qc_at qkX12_figures 92 rfl) rfl <| qc_gI (qc_at qkX12_figures 93 rfl) hn rfl <| hx) ?_
      obtain ⟨r12, I12, L12, D12, R12, e12, h⟩ := qc_bd_of h
      have c12 := (tX12_byteAt hn (c9.1.1 hR) e12)
      refine qd_cVv (ci := 10) (a0 := 291) (qc_at qkX12_figures 94 rfl) ql_12_235 qfX12_byteAt (qc_kf hn rfl) rfl c12 rfl rfl (Nat.le_of_ble_eq_true rfl) (qc_rml (by decide) (by decide)) ⟨Nat.zero_le _, Nat.zero_le _⟩ ?_
      exact And.imp_right (fun hx => qc_i2l (qc_at qkX12_figures 95 rfl) <| qc_ladd (qc_at qkX12_figures 96 rfl) <| qc_ldc2l (qc_at qkX12_figures 97 rfl) <| qc_lsub (qc_at qkX12_figures 98 rfl) <| qc_sub [0, 2, 3] rfl hx) (tX12_figures_b181 hn (c12.1.1 (c9.1.1 hR)) hk139 h)
    · replace h := qc_jn u11 h
      exact And.imp_right (fun hx => qc_lload_n (qc_at qkX12_figures 86 rfl) rfl <| qc_goto (qc_at qkX12_figures 87 rfl) <| qc_sub [0, 2, 3] rfl hx) (tX12_figures_b181 hn (c9.1.1 hR) hk139 h)
def fX12_figures_l139 (w : qcW) : Nat → qTI × qTL × qTD × qTR × Int64 × Int32 × Int32 → qcO Unit := qc_lp (fun k q => match q with | (I, L, D, R, x1, x3, x4) => fX12_figures_b139 w k I L D R x1 x3 x4)
set_option maxRecDepth 100000 in
set_option maxHeartbeats 4000000 in
theorem tX12_figures_l139 {w : qcW} (hn : qcNF ≤ w.1) : ∀ (n : Nat) {r : Unit} {I' : qTI} {L' : qTL} {D' : qTD} {R' : qTR} {I : qTI} {L : qTL} {D : qTD} {R : qTR} {x1 : Int64} {x3 : Int32} {x4 : Int32} (hR : qc_FR R) (h : fX12_figures_l139 w n (I, L, D, R, x1, x3, x4) = some (r, I', L', D', R')), qc_fm qcSM (I, L, D, R) (I', L', D', R') ∧ qc_X (qc_rm (2) 0 0) qmX12_figures (qc_QM 0 0 (qc_eq none w (I', L', D', R'))) 0 0 w (139, [(0, .ref 291), (1, .long x1), (3, .int x3), (4, .int x4)], [], I, L, D, R) := by
  intro n
  induction n with
  | zero => intro _ _ _ _ _ _ _ _ _ _ _ _ _ h; cases h
  | succ n ih => intro _ _ _ _ _ _ _ _ _ _ _ _ hR h; exact tX12_figures_b139 hn hR (k139 := fX12_figures_l139 w n) (fun hR h => ih hR h) h
def fX12_figures_b12 (w : qcW) (k12 : qTI × qTL × qTD × qTR × Int64 × Int32 → qcO Unit) (I : qTI) (L : qTL) (D : qTD) (R : qTR) (x1 : Int64) (x3 : Int32) : qcO Unit :=
  (qc_bd (fX12_isFigure w I L D R (I 291 11)) fun r13 I13 L13 D13 R13 => if r13 = true then (if (lg_cmp x1 (99999999999 : Int64)) ≤ 0 then (qc_bd (fX12_byteAt w I13 L13 D13 R13 (I13 291 11)) fun r20 I20 L20 D20 R20 => fX12_figures_b54 w k12 I20 L20 D20 R20 x3 ((((10 : Int64) * x1) + (Int32.toInt64 r20)) - (48 : Int64))) else (fX12_figures_b54 w k12 I13 L13 D13 R13 x3 x1)) else (qc_bd (fX12_byteAt w I13 L13 D13 R13 (I13 291 11)) fun r15 I15 L15 D15 R15 => if r15 = (46 : Int32) then (qc_bd (fX12_isFigure w I15 L15 D15 R15 ((I15 291 11) + (1 : Int32))) fun r17 I17 L17 D17 R17 => if r17 = true then (fX12_figures_l139 w qcF ((qc_u I17 291 11 ((I17 291 11) + (1 : Int32))), L17, D17, R17, x1, x3, (0 : Int32))) else (fX12_figures_b97 w I17 L17 D17 R17 x1)) else (fX12_figures_b97 w I15 L15 D15 R15 x1)))
set_option maxRecDepth 100000 in
set_option maxHeartbeats 4000000 in
theorem tX12_figures_b12 {w : qcW} {I : qTI} {L : qTL} {D : qTD} {R : qTR} {k12 : qTI × qTL × qTD × qTR × Int64 × Int32 → qcO Unit} {x1 : Int64} {x3 : Int32} {r : Unit} {I' : qTI} {L' : qTL} {D' : qTD} {R' : qTR} (hn : qcNF ≤ w.1) (hR : qc_FR R) (hk12 : ∀ {I : qTI} {L : qTL} {D : qTD} {R : qTR} {x1 : Int64} {x3 : Int32} {r : Unit} {I' : qTI} {L' : qTL} {D' : qTD} {R' : qTR}, qc_FR R → k12 (I, L, D, R, x1, x3) = some (r, I', L', D', R') → qc_fm qcSM (I, L, D, R) (I', L', D', R') ∧ qc_X (qc_rm (2) 0 0) qmX12_figures (qc_QM 0 0 (qc_eq none w (I', L', D', R'))) 0 0 w (12, [(0, .ref 291), (1, .long x1), (3, .int x3)], [], I, L, D, R)) (h : fX12_figures_b12 w k12 I L D R x1 x3 = some (r, I', L', D', R')) : qc_fm qcSM (I, L, D, R) (I', L', D', R') ∧ qc_X (qc_rm (2) 0 0) qmX12_figures (qc_QM 0 0 (qc_eq none w (I', L', D', R'))) 0 0 w (12, [(0, .ref 291), (1, .long x1), (3, .int x3)], [], I, L, D, R) := by
  unfold fX12_figures_b12 at h
  refine And.imp_right (fun hx => qc_aload_n (qc_at qkX12_figures 8 rfl) rfl <| qc_aload_n (qc_at qkX12_figures 9 rfl) rfl <| qc_gI (qc_at qkX12_figures 10 rfl) hn rfl <| hx) ?_
  obtain ⟨r13, I13, L13, D13, R13, e13, h⟩ := qc_bd_of h
  have c13 := (tX12_isFigure hn hR e13)
  refine qd_cVv (ci := 10) (a0 := 291) (qc_at qkX12_figures 11 rfl) ql_12_265 qfX12_isFigure (qc_kf hn rfl) rfl c13 rfl rfl (Nat.le_of_ble_eq_true rfl) (qc_rml (by decide) (by decide)) ⟨Nat.zero_le _, Nat.zero_le _⟩ ?_
  refine qc_andB (qc_ifB_eq (qc_at qkX12_figures 12 rfl)) (fun u14 => ?_) (fun u14 => ?_)
  · replace h := qc_jf u14 h
    refine And.imp_right (fun hx => qc_aload_n (qc_at qkX12_figures 39 rfl) rfl <| qc_aload_n (qc_at qkX12_figures 40 rfl) rfl <| qc_gI (qc_at qkX12_figures 41 rfl) hn rfl <| hx) ?_
    obtain ⟨r15, I15, L15, D15, R15, e15, h⟩ := qc_bd_of h
    have c15 := (tX12_byteAt hn (c13.1.1 hR) e15)
    refine qd_cVv (ci := 10) (a0 := 291) (qc_at qkX12_figures 42 rfl) ql_12_235 qfX12_byteAt (qc_kf hn rfl) rfl c15 rfl rfl (Nat.le_of_ble_eq_true rfl) (qc_rml (by decide) (by decide)) ⟨Nat.zero_le _, Nat.zero_le _⟩ ?_
    refine And.imp_right (fun hx => qc_bipush (qc_at qkX12_figures 43 rfl) <| hx) ?_
    refine qc_andN (qc_icmp_ne (qc_at qkX12_figures 44 rfl)) (fun u16 => ?_) (fun u16 => ?_)
    · replace h := qc_jn u16 h
      exact And.imp_right (fun hx => qc_sub [0, 1] rfl hx) (tX12_figures_b97 hn (c15.1.1 (c13.1.1 hR)) h)
    · replace h := qc_jp u16 h
      refine And.imp_right (fun hx => qc_aload_n (qc_at qkX12_figures 45 rfl) rfl <| qc_aload_n (qc_at qkX12_figures 46 rfl) rfl <| qc_gI (qc_at qkX12_figures 47 rfl) hn rfl <| qc_iconst (qc_at qkX12_figures 48 rfl) <| qc_iadd (qc_at qkX12_figures 49 rfl) <| hx) ?_
      obtain ⟨r17, I17, L17, D17, R17, e17, h⟩ := qc_bd_of h
      have c17 := (tX12_isFigure hn (c15.1.1 (c13.1.1 hR)) e17)
      refine qd_cVv (ci := 10) (a0 := 291) (qc_at qkX12_figures 50 rfl) ql_12_265 qfX12_isFigure (qc_kf hn rfl) rfl c17 rfl rfl (Nat.le_of_ble_eq_true rfl) (qc_rml (by decide) (by decide)) ⟨Nat.zero_le _, Nat.zero_le _⟩ ?_
      refine qc_andBn (qc_ifB_ne (qc_at qkX12_figures 51 rfl)) (fun u18 => ?_) (fun u18 => ?_)
      · replace h := qc_jt u18 h
        refine And.imp_right (fun hx => qc_aload_n (qc_at qkX12_figures 69 rfl) rfl <| qc_dup (qc_at qkX12_figures 70 rfl) rfl <| qc_gI (qc_at qkX12_figures 71 rfl) hn rfl <| qc_iconst (qc_at qkX12_figures 72 rfl) <| qc_iadd (qc_at qkX12_figures 73 rfl) <| hx) (qd_pI (qc_at qkX12_figures 74 rfl) hn rfl rfl ?_)
        exact And.imp_right (fun hx => qc_iconst (qc_at qkX12_figures 75 rfl) <| qc_istore (lv' := [(4, _), (0, _), (1, _), (3, _)]) (qc_at qkX12_figures 76 rfl) rfl rfl <| qc_sub [1, 2, 3, 0] rfl hx) (tX12_figures_l139 hn qcF (c17.1.1 (c15.1.1 (c13.1.1 hR))) h)
      · replace h := qc_jf u18 h
        exact And.imp_right (fun hx => qc_sub [0, 1] rfl hx) (tX12_figures_b97 hn (c17.1.1 (c15.1.1 (c13.1.1 hR))) h)
  · replace h := qc_jt u14 h
    refine And.imp_right (fun hx => qc_lload_n (qc_at qkX12_figures 13 rfl) rfl <| qc_ldc2l (qc_at qkX12_figures 14 rfl) <| qc_lcmp (qc_at qkX12_figures 15 rfl) <| hx) ?_
    refine qc_andC (qc_if_le (qc_at qkX12_figures 16 rfl)) (fun u19 => ?_) (fun u19 => ?_)
    · replace h := qc_jp u19 h
      refine And.imp_right (fun hx => qc_ldc2l (qc_at qkX12_figures 19 rfl) <| qc_lload_n (qc_at qkX12_figures 20 rfl) rfl <| qc_lmul (qc_at qkX12_figures 21 rfl) <| qc_aload_n (qc_at qkX12_figures 22 rfl) rfl <| qc_aload_n (qc_at qkX12_figures 23 rfl) rfl <| qc_gI (qc_at qkX12_figures 24 rfl) hn rfl <| hx) ?_
      obtain ⟨r20, I20, L20, D20, R20, e20, h⟩ := qc_bd_of h
      have c20 := (tX12_byteAt hn (c13.1.1 hR) e20)
      refine qd_cVv (ci := 10) (a0 := 291) (qc_at qkX12_figures 25 rfl) ql_12_235 qfX12_byteAt (qc_kf hn rfl) rfl c20 rfl rfl (Nat.le_of_ble_eq_true rfl) (qc_rml (by decide) (by decide)) ⟨Nat.zero_le _, Nat.zero_le _⟩ ?_
      exact And.imp_right (fun hx => qc_i2l (qc_at qkX12_figures 26 rfl) <| qc_ladd (qc_at qkX12_figures 27 rfl) <| qc_ldc2l (qc_at qkX12_figures 28 rfl) <| qc_lsub (qc_at qkX12_figures 29 rfl) <| qc_sub [0, 2] rfl hx) (tX12_figures_b54 hn (c20.1.1 (c13.1.1 hR)) hk12 h)
    · replace h := qc_jn u19 h
      exact And.imp_right (fun hx => qc_lload_n (qc_at qkX12_figures 17 rfl) rfl <| qc_goto (qc_at qkX12_figures 18 rfl) <| qc_sub [0, 2] rfl hx) (tX12_figures_b54 hn (c13.1.1 hR) hk12 h)
def fX12_figures_l12 (w : qcW) : Nat → qTI × qTL × qTD × qTR × Int64 × Int32 → qcO Unit := qc_lp (fun k q => match q with | (I, L, D, R, x1, x3) => fX12_figures_b12 w k I L D R x1 x3)
set_option maxRecDepth 100000 in
set_option maxHeartbeats 4000000 in
theorem tX12_figures_l12 {w : qcW} (hn : qcNF ≤ w.1) : ∀ (n : Nat) {r : Unit} {I' : qTI} {L' : qTL} {D' : qTD} {R' : qTR} {I : qTI} {L : qTL} {D : qTD} {R : qTR} {x1 : Int64} {x3 : Int32} (hR : qc_FR R) (h : fX12_figures_l12 w n (I, L, D, R, x1, x3) = some (r, I', L', D', R')), qc_fm qcSM (I, L, D, R) (I', L', D', R') ∧ qc_X (qc_rm (2) 0 0) qmX12_figures (qc_QM 0 0 (qc_eq none w (I', L', D', R'))) 0 0 w (12, [(0, .ref 291), (1, .long x1), (3, .int x3)], [], I, L, D, R) := by
  intro n
  induction n with
  | zero => intro _ _ _ _ _ _ _ _ _ _ _ _ h; cases h
  | succ n ih => intro _ _ _ _ _ _ _ _ _ _ _ hR h; exact tX12_figures_b12 hn hR (k12 := fX12_figures_l12 w n) (fun hR h => ih hR h) h
def fX12_figures (w : qcW) (I : qTI) (L : qTL) (D : qTD) (R : qTR) : qcO Unit :=
  (fX12_figures_l12 w qcF ((qc_u I 291 11 (I 291 10)), L, D, R, (0 : Int64), (0 : Int32)))
set_option maxRecDepth 100000 in
set_option maxHeartbeats 4000000 in
theorem tX12_figures {w : qcW} {I : qTI} {L : qTL} {D : qTD} {R : qTR} {r : Unit} {I' : qTI} {L' : qTL} {D' : qTD} {R' : qTR} (hn : qcNF ≤ w.1) (hR : qc_FR R) (h : fX12_figures w I L D R = some (r, I', L', D', R')) : qc_fm qcSM (I, L, D, R) (I', L', D', R') ∧ qc_V (2) 0 0 qmX12_figures [.ref 291] w (I, L, D, R) (qc_eq none w (I', L', D', R')) := by
  unfold fX12_figures at h
  refine And.imp_right (fun hx => qc_V.of rfl rfl (Nat.le_of_ble_eq_true rfl) (lv := [(0, .ref 291)]) rfl hx) ?_
  refine And.imp_right (fun hx => qc_aload_n (qc_at qkX12_figures 0 rfl) rfl <| qc_aload_n (qc_at qkX12_figures 1 rfl) rfl <| qc_gI (qc_at qkX12_figures 2 rfl) hn rfl <| hx) (qd_pI (qc_at qkX12_figures 3 rfl) hn rfl rfl ?_)
  exact And.imp_right (fun hx => qc_lconst (qc_at qkX12_figures 4 rfl) <| qc_lstore_n (lv' := [(1, _), (0, _)]) (qc_at qkX12_figures 5 rfl) rfl rfl <| qc_iconst (qc_at qkX12_figures 6 rfl) <| qc_istore_n (lv' := [(3, _), (1, _), (0, _)]) (qc_at qkX12_figures 7 rfl) rfl rfl <| qc_sub [2, 1, 0] rfl hx) (tX12_figures_l12 hn qcF hR h)
def fX12_letters_b82 (w : qcW) (k18 : qTI × qTL × qTD × qTR → qcO Unit) (I : qTI) (L : qTL) (D : qTD) (R : qTR) (s0 : Int64) : qcO Unit :=
  (k18 ((qc_u I 291 11 ((I 291 11) + (1 : Int32))), (qc_u L 291 12 s0), D, R))
set_option maxRecDepth 100000 in
set_option maxHeartbeats 4000000 in
theorem tX12_letters_b82 {w : qcW} {I : qTI} {L : qTL} {D : qTD} {R : qTR} {k18 : qTI × qTL × qTD × qTR → qcO Unit} {s0 : Int64} {r : Unit} {I' : qTI} {L' : qTL} {D' : qTD} {R' : qTR} (hn : qcNF ≤ w.1) (hR : qc_FR R) (hk18 : ∀ {I : qTI} {L : qTL} {D : qTD} {R : qTR} {r : Unit} {I' : qTI} {L' : qTL} {D' : qTD} {R' : qTR}, qc_FR R → k18 (I, L, D, R) = some (r, I', L', D', R') → qc_fm qcSM (I, L, D, R) (I', L', D', R') ∧ qc_X (qc_rm (1) 0 0) qmX12_letters (qc_QM 0 0 (qc_eq none w (I', L', D', R'))) 0 0 w (18, [(0, .ref 291)], [], I, L, D, R)) (h : fX12_letters_b82 w k18 I L D R s0 = some (r, I', L', D', R')) : qc_fm qcSM (I, L, D, R) (I', L', D', R') ∧ qc_X (qc_rm (1) 0 0) qmX12_letters (qc_QM 0 0 (qc_eq none w (I', L', D', R'))) 0 0 w (82, [(0, .ref 291)], [.long s0, .ref 291], I, L, D, R) := by
  unfold fX12_letters_b82 at h
  refine qd_pL (qc_at qkX12_letters 41 rfl) hn rfl rfl ?_
  refine And.imp_right (fun hx => qc_aload_n (qc_at qkX12_letters 42 rfl) rfl <| qc_dup (qc_at qkX12_letters 43 rfl) rfl <| qc_gI (qc_at qkX12_letters 44 rfl) hn rfl <| qc_iconst (qc_at qkX12_letters 45 rfl) <| qc_iadd (qc_at qkX12_letters 46 rfl) <| hx) (qd_pI (qc_at qkX12_letters 47 rfl) hn rfl rfl ?_)
  exact And.imp_right (fun hx => qc_goto (qc_at qkX12_letters 48 rfl) <| qc_sub [0] rfl hx) (hk18 hR h)
def fX12_letters_b18 (w : qcW) (k18 : qTI × qTL × qTD × qTR → qcO Unit) (I : qTI) (L : qTL) (D : qTD) (R : qTR) : qcO Unit :=
  (qc_bd (fX12_byteAt w I L D R (I 291 11)) fun r1 I1 L1 D1 R1 => qc_bd (fX12_in w I1 L1 D1 R1 (Int32.toInt64 r1) (97 : Int64) (122 : Int64)) fun r2 I2 L2 D2 R2 => if r2 = true then (if (12 : Int32) ≤ ((I2 291 11) - (I2 291 10)) then (fX12_letters_b82 w k18 I2 L2 D2 R2 (-1 : Int64)) else (qc_bd (fX12_byteAt w I2 L2 D2 R2 (I2 291 11)) fun r5 I5 L5 D5 R5 => fX12_letters_b82 w k18 I5 L5 D5 R5 ((((32 : Int64) * (L2 291 12)) + (Int32.toInt64 r5)) - (96 : Int64)))) else (some ((), I2, L2, D2, R2)))
set_option maxRecDepth 100000 in
set_option maxHeartbeats 4000000 in
theorem tX12_letters_b18 {w : qcW} {I : qTI} {L : qTL} {D : qTD} {R : qTR} {k18 : qTI × qTL × qTD × qTR → qcO Unit} {r : Unit} {I' : qTI} {L' : qTL} {D' : qTD} {R' : qTR} (hn : qcNF ≤ w.1) (hR : qc_FR R) (hk18 : ∀ {I : qTI} {L : qTL} {D : qTD} {R : qTR} {r : Unit} {I' : qTI} {L' : qTL} {D' : qTD} {R' : qTR}, qc_FR R → k18 (I, L, D, R) = some (r, I', L', D', R') → qc_fm qcSM (I, L, D, R) (I', L', D', R') ∧ qc_X (qc_rm (1) 0 0) qmX12_letters (qc_QM 0 0 (qc_eq none w (I', L', D', R'))) 0 0 w (18, [(0, .ref 291)], [], I, L, D, R)) (h : fX12_letters_b18 w k18 I L D R = some (r, I', L', D', R')) : qc_fm qcSM (I, L, D, R) (I', L', D', R') ∧ qc_X (qc_rm (1) 0 0) qmX12_letters (qc_QM 0 0 (qc_eq none w (I', L', D', R'))) 0 0 w (18, [(0, .ref 291)], [], I, L, D, R) := by
  unfold fX12_letters_b18 at h
  refine And.imp_right (fun hx => qc_aload_n (qc_at qkX12_letters 10 rfl) rfl <| qc_aload_n (qc_at qkX12_letters 11 rfl) rfl <| qc_gI (qc_at qkX12_letters 12 rfl) hn rfl <| hx) ?_
  obtain ⟨r1, I1, L1, D1, R1, e1, h⟩ := qc_bd_of h
  have c1 := (tX12_byteAt hn hR e1)
  refine qd_cVv (ci := 10) (a0 := 291) (qc_at qkX12_letters 13 rfl) ql_12_235 qfX12_byteAt (qc_kf hn rfl) rfl c1 rfl rfl (Nat.le_of_ble_eq_true rfl) (qc_rml (by decide) (by decide)) ⟨Nat.zero_le _, Nat.zero_le _⟩ ?_
  refine And.imp_right (fun hx => qc_i2l (qc_at qkX12_letters 14 rfl) <| qc_ldc2l (qc_at qkX12_letters 15 rfl) <| qc_ldc2l (qc_at qkX12_letters 16 rfl) <| hx) ?_
  obtain ⟨r2, I2, L2, D2, R2, e2, h⟩ := qc_bd_of h
  have c2 := (tX12_in hn (c1.1.1 hR) e2)
  refine qd_cSv (qc_at qkX12_letters 17 rfl) ql_12_162 qfX12_in c2 rfl rfl (Nat.le_of_ble_eq_true rfl) (qc_rml (by decide) (by decide)) ⟨Nat.zero_le _, Nat.zero_le _⟩ ?_
  refine qc_andB (qc_ifB_eq (qc_at qkX12_letters 18 rfl)) (fun u3 => ?_) (fun u3 => ?_)
  · replace h := qc_jf u3 h
    obtain ⟨rfl, rfl, rfl, rfl, rfl⟩ := qc_some5 h
    exact ⟨qc_fm.rf _, qc_vret (qc_at qkX12_letters 49 rfl) rfl (Nat.le_refl _) (Nat.le_refl _) (qc_eq.rf _ _ _)⟩
  · replace h := qc_jt u3 h
    refine And.imp_right (fun hx => qc_aload_n (qc_at qkX12_letters 19 rfl) rfl <| qc_aload_n (qc_at qkX12_letters 20 rfl) rfl <| qc_gI (qc_at qkX12_letters 21 rfl) hn rfl <| qc_aload_n (qc_at qkX12_letters 22 rfl) rfl <| qc_gI (qc_at qkX12_letters 23 rfl) hn rfl <| qc_isub (qc_at qkX12_letters 24 rfl) <| qc_bipush (qc_at qkX12_letters 25 rfl) <| hx) ?_
    refine qc_andC (qc_icmp_ge (qc_at qkX12_letters 26 rfl)) (fun u4 => ?_) (fun u4 => ?_)
    · replace h := qc_jp u4 h
      exact And.imp_right (fun hx => qc_ldc2l (qc_at qkX12_letters 40 rfl) <| qc_sub [0] rfl hx) (tX12_letters_b82 hn (c2.1.1 (c1.1.1 hR)) hk18 h)
    · replace h := qc_jn u4 h
      refine And.imp_right (fun hx => qc_ldc2l (qc_at qkX12_letters 27 rfl) <| qc_aload_n (qc_at qkX12_letters 28 rfl) rfl <| qc_gL (qc_at qkX12_letters 29 rfl) hn rfl <| qc_lmul (qc_at qkX12_letters 30 rfl) <| qc_aload_n (qc_at qkX12_letters 31 rfl) rfl <| qc_aload_n (qc_at qkX12_letters 32 rfl) rfl <| qc_gI (qc_at qkX12_letters 33 rfl) hn rfl <| hx) ?_
      obtain ⟨r5, I5, L5, D5, R5, e5, h⟩ := qc_bd_of h
      have c5 := (tX12_byteAt hn (c2.1.1 (c1.1.1 hR)) e5)
      refine qd_cVv (ci := 10) (a0 := 291) (qc_at qkX12_letters 34 rfl) ql_12_235 qfX12_byteAt (qc_kf hn rfl) rfl c5 rfl rfl (Nat.le_of_ble_eq_true rfl) (qc_rml (by decide) (by decide)) ⟨Nat.zero_le _, Nat.zero_le _⟩ ?_
      exact And.imp_right (fun hx => qc_i2l (qc_at qkX12_letters 35 rfl) <| qc_ladd (qc_at qkX12_letters 36 rfl) <| qc_ldc2l (qc_at qkX12_letters 37 rfl) <| qc_lsub (qc_at qkX12_letters 38 rfl) <| qc_goto (qc_at qkX12_letters 39 rfl) <| qc_sub [0] rfl hx) (tX12_letters_b82 hn (c5.1.1 (c2.1.1 (c1.1.1 hR))) hk18 h)
def fX12_letters_l18 (w : qcW) : Nat → qTI × qTL × qTD × qTR → qcO Unit := qc_lp (fun k q => match q with | (I, L, D, R) => fX12_letters_b18 w k I L D R)
set_option maxRecDepth 100000 in
set_option maxHeartbeats 4000000 in
theorem tX12_letters_l18 {w : qcW} (hn : qcNF ≤ w.1) : ∀ (n : Nat) {r : Unit} {I' : qTI} {L' : qTL} {D' : qTD} {R' : qTR} {I : qTI} {L : qTL} {D : qTD} {R : qTR} (hR : qc_FR R) (h : fX12_letters_l18 w n (I, L, D, R) = some (r, I', L', D', R')), qc_fm qcSM (I, L, D, R) (I', L', D', R') ∧ qc_X (qc_rm (1) 0 0) qmX12_letters (qc_QM 0 0 (qc_eq none w (I', L', D', R'))) 0 0 w (18, [(0, .ref 291)], [], I, L, D, R) := by
  intro n
  induction n with
  | zero => intro _ _ _ _ _ _ _ _ _ _ h; cases h
  | succ n ih => intro _ _ _ _ _ _ _ _ _ hR h; exact tX12_letters_b18 hn hR (k18 := fX12_letters_l18 w n) (fun hR h => ih hR h) h
def fX12_letters (w : qcW) (I : qTI) (L : qTL) (D : qTD) (R : qTR) : qcO Unit :=
  (fX12_letters_l18 w qcF ((qc_u (qc_u I 291 9 (1 : Int32)) 291 11 ((qc_u I 291 9 (1 : Int32)) 291 10)), (qc_u L 291 12 (0 : Int64)), D, R))
set_option maxRecDepth 100000 in
set_option maxHeartbeats 4000000 in
theorem tX12_letters {w : qcW} {I : qTI} {L : qTL} {D : qTD} {R : qTR} {r : Unit} {I' : qTI} {L' : qTL} {D' : qTD} {R' : qTR} (hn : qcNF ≤ w.1) (hR : qc_FR R) (h : fX12_letters w I L D R = some (r, I', L', D', R')) : qc_fm qcSM (I, L, D, R) (I', L', D', R') ∧ qc_V (1) 0 0 qmX12_letters [.ref 291] w (I, L, D, R) (qc_eq none w (I', L', D', R')) := by
  unfold fX12_letters at h
  refine And.imp_right (fun hx => qc_V.of rfl rfl (Nat.le_of_ble_eq_true rfl) (lv := [(0, .ref 291)]) rfl hx) ?_
  refine And.imp_right (fun hx => qc_aload_n (qc_at qkX12_letters 0 rfl) rfl <| qc_iconst (qc_at qkX12_letters 1 rfl) <| hx) (qd_pI (qc_at qkX12_letters 2 rfl) hn rfl rfl ?_)
  refine And.imp_right (fun hx => qc_aload_n (qc_at qkX12_letters 3 rfl) rfl <| qc_lconst (qc_at qkX12_letters 4 rfl) <| hx) (qd_pL (qc_at qkX12_letters 5 rfl) hn rfl rfl ?_)
  refine And.imp_right (fun hx => qc_aload_n (qc_at qkX12_letters 6 rfl) rfl <| qc_aload_n (qc_at qkX12_letters 7 rfl) rfl <| qc_gI (qc_at qkX12_letters 8 rfl) hn rfl <| hx) (qd_pI (qc_at qkX12_letters 9 rfl) hn rfl rfl ?_)
  exact And.imp_right (fun hx => qc_sub [0] rfl hx) (tX12_letters_l18 hn qcF hR h)
def fX12_sign_b26 (w : qcW) (I : qTI) (L : qTL) (D : qTD) (R : qTR) (x1 : Int32) (x2 : Int32) : qcO Unit :=
  (if x2 = (61 : Int32) then (some ((), (qc_u I 291 11 ((I 291 11) + (1 : Int32))), L, D, R)) else (if x2 = x1 then (if x1 = (62 : Int32) then (qc_bd (fX12_byteAt w (qc_u I 291 11 ((I 291 11) + (1 : Int32))) L D R ((qc_u I 291 11 ((I 291 11) + (1 : Int32))) 291 11)) fun r4 I4 L4 D4 R4 => if r4 = (62 : Int32) then (some ((), (qc_u I4 291 11 (((qc_u I 291 11 ((I 291 11) + (1 : Int32))) 291 11) + (1 : Int32))), L4, D4, R4)) else (some ((), (qc_u I4 291 11 (((qc_u I 291 11 ((I 291 11) + (1 : Int32))) 291 11) + (0 : Int32))), L4, D4, R4))) else (some ((), (qc_u (qc_u I 291 11 ((I 291 11) + (1 : Int32))) 291 11 (((qc_u I 291 11 ((I 291 11) + (1 : Int32))) 291 11) + (0 : Int32))), L, D, R))) else (some ((), I, L, D, R))))
set_option maxRecDepth 100000 in
set_option maxHeartbeats 4000000 in
theorem tX12_sign_b26 {w : qcW} {I : qTI} {L : qTL} {D : qTD} {R : qTR} {x1 : Int32} {x2 : Int32} {r : Unit} {I' : qTI} {L' : qTL} {D' : qTD} {R' : qTR} (hn : qcNF ≤ w.1) (hR : qc_FR R) (h : fX12_sign_b26 w I L D R x1 x2 = some (r, I', L', D', R')) : qc_fm qcSM (I, L, D, R) (I', L', D', R') ∧ qc_X (qc_rm (1) 0 0) qmX12_sign (qc_QM 0 0 (qc_eq none w (I', L', D', R'))) 0 0 w (26, [(0, .ref 291), (1, .int x1), (2, .int x2)], [], I, L, D, R) := by
  unfold fX12_sign_b26 at h
  refine And.imp_right (fun hx => qc_iload_n (qc_at qkX12_sign 14 rfl) rfl <| qc_bipush (qc_at qkX12_sign 15 rfl) <| hx) ?_
  refine qc_andN (qc_icmp_ne (qc_at qkX12_sign 16 rfl)) (fun u1 => ?_) (fun u1 => ?_)
  · replace h := qc_jn u1 h
    refine And.imp_right (fun hx => qc_iload_n (qc_at qkX12_sign 24 rfl) rfl <| qc_iload_n (qc_at qkX12_sign 25 rfl) rfl <| hx) ?_
    refine qc_andN (qc_icmp_ne (qc_at qkX12_sign 26 rfl)) (fun u2 => ?_) (fun u2 => ?_)
    · replace h := qc_jn u2 h
      obtain ⟨rfl, rfl, rfl, rfl, rfl⟩ := qc_some5 h
      exact ⟨qc_fm.rf _, qc_vret (qc_at qkX12_sign 50 rfl) rfl (Nat.le_refl _) (Nat.le_refl _) (qc_eq.rf _ _ _)⟩
    · replace h := qc_jp u2 h
      refine And.imp_right (fun hx => qc_aload_n (qc_at qkX12_sign 27 rfl) rfl <| qc_dup (qc_at qkX12_sign 28 rfl) rfl <| qc_gI (qc_at qkX12_sign 29 rfl) hn rfl <| qc_iconst (qc_at qkX12_sign 30 rfl) <| qc_iadd (qc_at qkX12_sign 31 rfl) <| hx) (qd_pI (qc_at qkX12_sign 32 rfl) hn rfl rfl ?_)
      refine And.imp_right (fun hx => qc_aload_n (qc_at qkX12_sign 33 rfl) rfl <| qc_dup (qc_at qkX12_sign 34 rfl) rfl <| qc_gI (qc_at qkX12_sign 35 rfl) hn rfl <| qc_iload_n (qc_at qkX12_sign 36 rfl) rfl <| qc_bipush (qc_at qkX12_sign 37 rfl) <| hx) ?_
      refine qc_andN (qc_icmp_ne (qc_at qkX12_sign 38 rfl)) (fun u3 => ?_) (fun u3 => ?_)
      · replace h := qc_jn u3 h
        refine And.imp_right (fun hx => qc_iconst (qc_at qkX12_sign 47 rfl) <| qc_iadd (qc_at qkX12_sign 48 rfl) <| hx) (qd_pI (qc_at qkX12_sign 49 rfl) hn rfl rfl ?_)
        obtain ⟨rfl, rfl, rfl, rfl, rfl⟩ := qc_some5 h
        exact ⟨qc_fm.rf _, qc_vret (qc_at qkX12_sign 50 rfl) rfl (Nat.le_refl _) (Nat.le_refl _) (qc_eq.rf _ _ _)⟩
      · replace h := qc_jp u3 h
        refine And.imp_right (fun hx => qc_aload_n (qc_at qkX12_sign 39 rfl) rfl <| qc_aload_n (qc_at qkX12_sign 40 rfl) rfl <| qc_gI (qc_at qkX12_sign 41 rfl) hn rfl <| hx) ?_
        obtain ⟨r4, I4, L4, D4, R4, e4, h⟩ := qc_bd_of h
        have c4 := (tX12_byteAt hn hR e4)
        refine qd_cVv (ci := 10) (a0 := 291) (qc_at qkX12_sign 42 rfl) ql_12_235 qfX12_byteAt (qc_kf hn rfl) rfl c4 rfl rfl (Nat.le_of_ble_eq_true rfl) (qc_rml (by decide) (by decide)) ⟨Nat.zero_le _, Nat.zero_le _⟩ ?_
        refine And.imp_right (fun hx => qc_bipush (qc_at qkX12_sign 43 rfl) <| hx) ?_
        refine qc_andN (qc_icmp_ne (qc_at qkX12_sign 44 rfl)) (fun u5 => ?_) (fun u5 => ?_)
        · replace h := qc_jn u5 h
          refine And.imp_right (fun hx => qc_iconst (qc_at qkX12_sign 47 rfl) <| qc_iadd (qc_at qkX12_sign 48 rfl) <| hx) (qd_pI (qc_at qkX12_sign 49 rfl) hn rfl rfl ?_)
          obtain ⟨rfl, rfl, rfl, rfl, rfl⟩ := qc_some5 h
          exact ⟨qc_fm.rf _, qc_vret (qc_at qkX12_sign 50 rfl) rfl (Nat.le_refl _) (Nat.le_refl _) (qc_eq.rf _ _ _)⟩
        · replace h := qc_jp u5 h
          refine And.imp_right (fun hx => qc_iconst (qc_at qkX12_sign 45 rfl) <| qc_goto (qc_at qkX12_sign 46 rfl) <| qc_iadd (qc_at qkX12_sign 48 rfl) <| hx) (qd_pI (qc_at qkX12_sign 49 rfl) hn rfl rfl ?_)
          obtain ⟨rfl, rfl, rfl, rfl, rfl⟩ := qc_some5 h
          exact ⟨qc_fm.rf _, qc_vret (qc_at qkX12_sign 50 rfl) rfl (Nat.le_refl _) (Nat.le_refl _) (qc_eq.rf _ _ _)⟩
  · replace h := qc_jp u1 h
    refine And.imp_right (fun hx => qc_aload_n (qc_at qkX12_sign 17 rfl) rfl <| qc_dup (qc_at qkX12_sign 18 rfl) rfl <| qc_gI (qc_at qkX12_sign 19 rfl) hn rfl <| qc_iconst (qc_at qkX12_sign 20 rfl) <| qc_iadd (qc_at qkX12_sign 21 rfl) <| hx) (qd_pI (qc_at qkX12_sign 22 rfl) hn rfl rfl ?_)
    obtain ⟨rfl, rfl, rfl, rfl, rfl⟩ := qc_some5 h
    exact ⟨qc_fm.rf _, qc_goto (qc_at qkX12_sign 23 rfl) <| qc_vret (qc_at qkX12_sign 50 rfl) rfl (Nat.le_refl _) (Nat.le_refl _) (qc_eq.rf _ _ _)⟩
def fX12_sign_b122 (w : qcW) (I : qTI) (L : qTL) (D : qTD) (R : qTR) (x1 : Int32) (x2 : Int32) (s0 : Int32) (s1 : Int32) : qcO Unit :=
  (if x1 = (33 : Int32) then (if x2 = (61 : Int32) then (some ((), (qc_u I 291 11 (s1 + s0)), L, D, R)) else (qc_bd (fX12_fail w (qc_u I 291 11 (s1 + s0)) L D R (1 : Int32) ((qc_u I 291 11 (s1 + s0)) 291 10)) fun r8 I8 L8 D8 R8 => some ((), I8, L8, D8, R8))) else (some ((), (qc_u I 291 11 (s1 + s0)), L, D, R)))
set_option maxRecDepth 100000 in
set_option maxHeartbeats 4000000 in
theorem tX12_sign_b122 {w : qcW} {I : qTI} {L : qTL} {D : qTD} {R : qTR} {x1 : Int32} {x2 : Int32} {s0 : Int32} {s1 : Int32} {r : Unit} {I' : qTI} {L' : qTL} {D' : qTD} {R' : qTR} (hn : qcNF ≤ w.1) (hR : qc_FR R) (h : fX12_sign_b122 w I L D R x1 x2 s0 s1 = some (r, I', L', D', R')) : qc_fm qcSM (I, L, D, R) (I', L', D', R') ∧ qc_X (qc_rm (1) 0 0) qmX12_sign (qc_QM 0 0 (qc_eq none w (I', L', D', R'))) 0 0 w (122, [(0, .ref 291), (1, .int x1), (2, .int x2)], [.int s0, .int s1, .ref 291], I, L, D, R) := by
  unfold fX12_sign_b122 at h
  refine And.imp_right (fun hx => qc_iadd (qc_at qkX12_sign 66 rfl) <| hx) (qd_pI (qc_at qkX12_sign 67 rfl) hn rfl rfl ?_)
  refine And.imp_right (fun hx => qc_iload_n (qc_at qkX12_sign 68 rfl) rfl <| qc_bipush (qc_at qkX12_sign 69 rfl) <| hx) ?_
  refine qc_andN (qc_icmp_ne (qc_at qkX12_sign 70 rfl)) (fun u6 => ?_) (fun u6 => ?_)
  · replace h := qc_jn u6 h
    obtain ⟨rfl, rfl, rfl, rfl, rfl⟩ := qc_some5 h
    exact ⟨qc_fm.rf _, qc_vret (qc_at qkX12_sign 79 rfl) rfl (Nat.le_refl _) (Nat.le_refl _) (qc_eq.rf _ _ _)⟩
  · replace h := qc_jp u6 h
    refine And.imp_right (fun hx => qc_iload_n (qc_at qkX12_sign 71 rfl) rfl <| qc_bipush (qc_at qkX12_sign 72 rfl) <| hx) ?_
    refine qc_andC (qc_icmp_eq (qc_at qkX12_sign 73 rfl)) (fun u7 => ?_) (fun u7 => ?_)
    · replace h := qc_jp u7 h
      obtain ⟨rfl, rfl, rfl, rfl, rfl⟩ := qc_some5 h
      exact ⟨qc_fm.rf _, qc_vret (qc_at qkX12_sign 79 rfl) rfl (Nat.le_refl _) (Nat.le_refl _) (qc_eq.rf _ _ _)⟩
    · replace h := qc_jn u7 h
      refine And.imp_right (fun hx => qc_aload_n (qc_at qkX12_sign 74 rfl) rfl <| qc_iconst (qc_at qkX12_sign 75 rfl) <| qc_aload_n (qc_at qkX12_sign 76 rfl) rfl <| qc_gI (qc_at qkX12_sign 77 rfl) hn rfl <| hx) ?_
      obtain ⟨r8, I8, L8, D8, R8, e8, h⟩ := qc_bd_of h
      have c8 := (tX12_fail hn hR e8)
      refine qd_cVn (ci := 10) (a0 := 291) (qc_at qkX12_sign 78 rfl) ql_12_268 qfX12_fail (qc_kf hn rfl) rfl c8 rfl rfl (Nat.le_of_ble_eq_true rfl) (qc_rml (by decide) (by decide)) ⟨Nat.zero_le _, Nat.zero_le _⟩ ?_
      obtain ⟨rfl, rfl, rfl, rfl, rfl⟩ := qc_some5 h
      exact ⟨qc_fm.rf _, qc_vret (qc_at qkX12_sign 79 rfl) rfl (Nat.le_refl _) (Nat.le_refl _) (qc_eq.rf _ _ _)⟩
def fX12_sign_b106 (w : qcW) (I : qTI) (L : qTL) (D : qTD) (R : qTR) (x1 : Int32) (x2 : Int32) : qcO Unit :=
  (if x2 = (61 : Int32) then (fX12_sign_b122 w I L D R x1 x2 (1 : Int32) (I 291 11)) else (fX12_sign_b122 w I L D R x1 x2 (0 : Int32) (I 291 11)))
set_option maxRecDepth 100000 in
set_option maxHeartbeats 4000000 in
theorem tX12_sign_b106 {w : qcW} {I : qTI} {L : qTL} {D : qTD} {R : qTR} {x1 : Int32} {x2 : Int32} {r : Unit} {I' : qTI} {L' : qTL} {D' : qTD} {R' : qTR} (hn : qcNF ≤ w.1) (hR : qc_FR R) (h : fX12_sign_b106 w I L D R x1 x2 = some (r, I', L', D', R')) : qc_fm qcSM (I, L, D, R) (I', L', D', R') ∧ qc_X (qc_rm (1) 0 0) qmX12_sign (qc_QM 0 0 (qc_eq none w (I', L', D', R'))) 0 0 w (106, [(0, .ref 291), (1, .int x1), (2, .int x2)], [], I, L, D, R) := by
  unfold fX12_sign_b106 at h
  refine And.imp_right (fun hx => qc_aload_n (qc_at qkX12_sign 57 rfl) rfl <| qc_dup (qc_at qkX12_sign 58 rfl) rfl <| qc_gI (qc_at qkX12_sign 59 rfl) hn rfl <| qc_iload_n (qc_at qkX12_sign 60 rfl) rfl <| qc_bipush (qc_at qkX12_sign 61 rfl) <| hx) ?_
  refine qc_andN (qc_icmp_ne (qc_at qkX12_sign 62 rfl)) (fun u9 => ?_) (fun u9 => ?_)
  · replace h := qc_jn u9 h
    exact And.imp_right (fun hx => qc_iconst (qc_at qkX12_sign 65 rfl) <| qc_sub [0, 1, 2] rfl hx) (tX12_sign_b122 hn hR h)
  · replace h := qc_jp u9 h
    exact And.imp_right (fun hx => qc_iconst (qc_at qkX12_sign 63 rfl) <| qc_goto (qc_at qkX12_sign 64 rfl) <| qc_sub [0, 1, 2] rfl hx) (tX12_sign_b122 hn hR h)
def fX12_sign_b249 (w : qcW) (I : qTI) (L : qTL) (D : qTD) (R : qTR) (s0 : Int32) : qcO Unit :=
  (if s0 = 0 then (qc_bd (fX12_fail w I L D R (1 : Int32) (I 291 10)) fun r11 I11 L11 D11 R11 => some ((), I11, L11, D11, R11)) else (some ((), I, L, D, R)))
set_option maxRecDepth 100000 in
set_option maxHeartbeats 4000000 in
theorem tX12_sign_b249 {w : qcW} {I : qTI} {L : qTL} {D : qTD} {R : qTR} {s0 : Int32} {r : Unit} {I' : qTI} {L' : qTL} {D' : qTD} {R' : qTR} (hn : qcNF ≤ w.1) (hR : qc_FR R) (h : fX12_sign_b249 w I L D R s0 = some (r, I', L', D', R')) : qc_fm qcSM (I, L, D, R) (I', L', D', R') ∧ qc_X (qc_rm (1) 0 0) qmX12_sign (qc_QM 0 0 (qc_eq none w (I', L', D', R'))) 0 0 w (249, [(0, .ref 291)], [.int s0], I, L, D, R) := by
  unfold fX12_sign_b249 at h
  refine And.imp_right (fun hx => qc_istore_n (lv' := [(3, _), (0, _)]) (qc_at qkX12_sign 131 rfl) rfl rfl <| qc_iload_n (qc_at qkX12_sign 132 rfl) rfl <| hx) ?_
  refine qc_andN (qc_if_ne (qc_at qkX12_sign 133 rfl)) (fun u10 => ?_) (fun u10 => ?_)
  · replace h := qc_jn u10 h
    obtain ⟨rfl, rfl, rfl, rfl, rfl⟩ := qc_some5 h
    exact ⟨qc_fm.rf _, qc_vret (qc_at qkX12_sign 139 rfl) rfl (Nat.le_refl _) (Nat.le_refl _) (qc_eq.rf _ _ _)⟩
  · replace h := qc_jp u10 h
    refine And.imp_right (fun hx => qc_aload_n (qc_at qkX12_sign 134 rfl) rfl <| qc_iconst (qc_at qkX12_sign 135 rfl) <| qc_aload_n (qc_at qkX12_sign 136 rfl) rfl <| qc_gI (qc_at qkX12_sign 137 rfl) hn rfl <| hx) ?_
    obtain ⟨r11, I11, L11, D11, R11, e11, h⟩ := qc_bd_of h
    have c11 := (tX12_fail hn hR e11)
    refine qd_cVn (ci := 10) (a0 := 291) (qc_at qkX12_sign 138 rfl) ql_12_268 qfX12_fail (qc_kf hn rfl) rfl c11 rfl rfl (Nat.le_of_ble_eq_true rfl) (qc_rml (by decide) (by decide)) ⟨Nat.zero_le _, Nat.zero_le _⟩ ?_
    obtain ⟨rfl, rfl, rfl, rfl, rfl⟩ := qc_some5 h
    exact ⟨qc_fm.rf _, qc_vret (qc_at qkX12_sign 139 rfl) rfl (Nat.le_refl _) (Nat.le_refl _) (qc_eq.rf _ _ _)⟩
def fX12_sign_b244 (w : qcW) (I : qTI) (L : qTL) (D : qTD) (R : qTR) : qcO Unit :=
  (fX12_sign_b249 w I L D R (1 : Int32))
set_option maxRecDepth 100000 in
set_option maxHeartbeats 4000000 in
theorem tX12_sign_b244 {w : qcW} {I : qTI} {L : qTL} {D : qTD} {R : qTR} {r : Unit} {I' : qTI} {L' : qTL} {D' : qTD} {R' : qTR} (hn : qcNF ≤ w.1) (hR : qc_FR R) (h : fX12_sign_b244 w I L D R = some (r, I', L', D', R')) : qc_fm qcSM (I, L, D, R) (I', L', D', R') ∧ qc_X (qc_rm (1) 0 0) qmX12_sign (qc_QM 0 0 (qc_eq none w (I', L', D', R'))) 0 0 w (244, [(0, .ref 291)], [], I, L, D, R) := by
  unfold fX12_sign_b244 at h
  exact And.imp_right (fun hx => qc_iconst (qc_at qkX12_sign 128 rfl) <| qc_goto (qc_at qkX12_sign 129 rfl) <| qc_sub [0] rfl hx) (tX12_sign_b249 hn hR h)
def fX12_sign (w : qcW) (I : qTI) (L : qTL) (D : qTD) (R : qTR) (x1 : Int32) : qcO Unit :=
  (qc_bd (fX12_byteAt w (qc_u I 291 9 (5 : Int32)) L D R ((qc_u I 291 9 (5 : Int32)) 291 11)) fun r12 I12 L12 D12 R12 => if x1 = (60 : Int32) then (fX12_sign_b26 w I12 L12 D12 R12 x1 r12) else (if x1 = (62 : Int32) then (fX12_sign_b26 w I12 L12 D12 R12 x1 r12) else (if x1 = (33 : Int32) then (fX12_sign_b106 w I12 L12 D12 R12 x1 r12) else (if x1 = (58 : Int32) then (fX12_sign_b106 w I12 L12 D12 R12 x1 r12) else (if x1 = (43 : Int32) then (fX12_sign_b244 w I12 L12 D12 R12) else (if x1 = (45 : Int32) then (fX12_sign_b244 w I12 L12 D12 R12) else (if x1 = (42 : Int32) then (fX12_sign_b244 w I12 L12 D12 R12) else (if x1 = (47 : Int32) then (fX12_sign_b244 w I12 L12 D12 R12) else (if x1 = (37 : Int32) then (fX12_sign_b244 w I12 L12 D12 R12) else (if x1 = (38 : Int32) then (fX12_sign_b244 w I12 L12 D12 R12) else (if x1 = (124 : Int32) then (fX12_sign_b244 w I12 L12 D12 R12) else (if x1 = (94 : Int32) then (fX12_sign_b244 w I12 L12 D12 R12) else (if x1 = (126 : Int32) then (fX12_sign_b244 w I12 L12 D12 R12) else (if x1 = (40 : Int32) then (fX12_sign_b244 w I12 L12 D12 R12) else (if x1 = (41 : Int32) then (fX12_sign_b244 w I12 L12 D12 R12) else (if x1 = (91 : Int32) then (fX12_sign_b244 w I12 L12 D12 R12) else (if x1 = (93 : Int32) then (fX12_sign_b244 w I12 L12 D12 R12) else (if x1 = (44 : Int32) then (fX12_sign_b244 w I12 L12 D12 R12) else (if x1 = (61 : Int32) then (fX12_sign_b244 w I12 L12 D12 R12) else (if x1 = (63 : Int32) then (fX12_sign_b244 w I12 L12 D12 R12) else (fX12_sign_b249 w I12 L12 D12 R12 (0 : Int32))))))))))))))))))))))
set_option maxRecDepth 100000 in
set_option maxHeartbeats 4000000 in
theorem tX12_sign {w : qcW} {I : qTI} {L : qTL} {D : qTD} {R : qTR} {x1 : Int32} {r : Unit} {I' : qTI} {L' : qTL} {D' : qTD} {R' : qTR} (hn : qcNF ≤ w.1) (hR : qc_FR R) (h : fX12_sign w I L D R x1 = some (r, I', L', D', R')) : qc_fm qcSM (I, L, D, R) (I', L', D', R') ∧ qc_V (1) 0 0 qmX12_sign [.ref 291, .int x1] w (I, L, D, R) (qc_eq none w (I', L', D', R')) := by
  unfold fX12_sign at h
  refine And.imp_right (fun hx => qc_V.of rfl rfl (Nat.le_of_ble_eq_true rfl) (lv := [(0, .ref 291), (1, .int x1)]) rfl hx) ?_
  refine And.imp_right (fun hx => qc_aload_n (qc_at qkX12_sign 0 rfl) rfl <| qc_iconst (qc_at qkX12_sign 1 rfl) <| hx) (qd_pI (qc_at qkX12_sign 2 rfl) hn rfl rfl ?_)
  refine And.imp_right (fun hx => qc_aload_n (qc_at qkX12_sign 3 rfl) rfl <| qc_aload_n (qc_at qkX12_sign 4 rfl) rfl <| qc_gI (qc_at qkX12_sign 5 rfl) hn rfl <| hx) ?_
  obtain ⟨r12, I12, L12, D12, R12, e12, h⟩ := qc_bd_of h
  have c12 := (tX12_byteAt hn hR e12)
  refine qd_cVv (ci := 10) (a0 := 291) (qc_at qkX12_sign 6 rfl) ql_12_235 qfX12_byteAt (qc_kf hn rfl) rfl c12 rfl rfl (Nat.le_of_ble_eq_true rfl) (qc_rml (by decide) (by decide)) ⟨Nat.zero_le _, Nat.zero_le _⟩ ?_
  refine And.imp_right (fun hx => qc_istore_n (lv' := [(2, _), (0, _), (1, _)]) (qc_at qkX12_sign 7 rfl) rfl rfl <| qc_iload_n (qc_at qkX12_sign 8 rfl) rfl <| qc_bipush (qc_at qkX12_sign 9 rfl) <| hx) ?_
  refine qc_andC (qc_icmp_eq (qc_at qkX12_sign 10 rfl)) (fun u13 => ?_) (fun u13 => ?_)
  · replace h := qc_jp u13 h
    exact And.imp_right (fun hx => qc_sub [1, 2, 0] rfl hx) (tX12_sign_b26 hn (c12.1.1 hR) h)
  · replace h := qc_jn u13 h
    refine And.imp_right (fun hx => qc_iload_n (qc_at qkX12_sign 11 rfl) rfl <| qc_bipush (qc_at qkX12_sign 12 rfl) <| hx) ?_
    refine qc_andN (qc_icmp_ne (qc_at qkX12_sign 13 rfl)) (fun u14 => ?_) (fun u14 => ?_)
    · replace h := qc_jn u14 h
      refine And.imp_right (fun hx => qc_iload_n (qc_at qkX12_sign 51 rfl) rfl <| qc_bipush (qc_at qkX12_sign 52 rfl) <| hx) ?_
      refine qc_andC (qc_icmp_eq (qc_at qkX12_sign 53 rfl)) (fun u15 => ?_) (fun u15 => ?_)
      · replace h := qc_jp u15 h
        exact And.imp_right (fun hx => qc_sub [1, 2, 0] rfl hx) (tX12_sign_b106 hn (c12.1.1 hR) h)
      · replace h := qc_jn u15 h
        refine And.imp_right (fun hx => qc_iload_n (qc_at qkX12_sign 54 rfl) rfl <| qc_bipush (qc_at qkX12_sign 55 rfl) <| hx) ?_
        refine qc_andN (qc_icmp_ne (qc_at qkX12_sign 56 rfl)) (fun u16 => ?_) (fun u16 => ?_)
        · replace h := qc_jn u16 h
          refine And.imp_right (fun hx => qc_iload_n (qc_at qkX12_sign 80 rfl) rfl <| qc_bipush (qc_at qkX12_sign 81 rfl) <| hx) ?_
          refine qc_andC (qc_icmp_eq (qc_at qkX12_sign 82 rfl)) (fun u17 => ?_) (fun u17 => ?_)
          · replace h := qc_jp u17 h
            exact And.imp_right (fun hx => qc_sub [1] rfl hx) (tX12_sign_b244 hn (c12.1.1 hR) h)
          · replace h := qc_jn u17 h
            refine And.imp_right (fun hx => qc_iload_n (qc_at qkX12_sign 83 rfl) rfl <| qc_bipush (qc_at qkX12_sign 84 rfl) <| hx) ?_
            refine qc_andC (qc_icmp_eq (qc_at qkX12_sign 85 rfl)) (fun u18 => ?_) (fun u18 => ?_)
            · replace h := qc_jp u18 h
              exact And.imp_right (fun hx => qc_sub [1] rfl hx) (tX12_sign_b244 hn (c12.1.1 hR) h)
            · replace h := qc_jn u18 h
              refine And.imp_right (fun hx => qc_iload_n (qc_at qkX12_sign 86 rfl) rfl <| qc_bipush (qc_at qkX12_sign 87 rfl) <| hx) ?_
              refine qc_andC (qc_icmp_eq (qc_at qkX12_sign 88 rfl)) (fun u19 => ?_) (fun u19 => ?_)
              · replace h := qc_jp u19 h
                exact And.imp_right (fun hx => qc_sub [1] rfl hx) (tX12_sign_b244 hn (c12.1.1 hR) h)
              · replace h := qc_jn u19 h
                refine And.imp_right (fun hx => qc_iload_n (qc_at qkX12_sign 89 rfl) rfl <| qc_bipush (qc_at qkX12_sign 90 rfl) <| hx) ?_
                refine qc_andC (qc_icmp_eq (qc_at qkX12_sign 91 rfl)) (fun u20 => ?_) (fun u20 => ?_)
                · replace h := qc_jp u20 h
                  exact And.imp_right (fun hx => qc_sub [1] rfl hx) (tX12_sign_b244 hn (c12.1.1 hR) h)
                · replace h := qc_jn u20 h
                  refine And.imp_right (fun hx => qc_iload_n (qc_at qkX12_sign 92 rfl) rfl <| qc_bipush (qc_at qkX12_sign 93 rfl) <| hx) ?_
                  refine qc_andC (qc_icmp_eq (qc_at qkX12_sign 94 rfl)) (fun u21 => ?_) (fun u21 => ?_)
                  · replace h := qc_jp u21 h
                    exact And.imp_right (fun hx => qc_sub [1] rfl hx) (tX12_sign_b244 hn (c12.1.1 hR) h)
                  · replace h := qc_jn u21 h
                    refine And.imp_right (fun hx => qc_iload_n (qc_at qkX12_sign 95 rfl) rfl <| qc_bipush (qc_at qkX12_sign 96 rfl) <| hx) ?_
                    refine qc_andC (qc_icmp_eq (qc_at qkX12_sign 97 rfl)) (fun u22 => ?_) (fun u22 => ?_)
                    · replace h := qc_jp u22 h
                      exact And.imp_right (fun hx => qc_sub [1] rfl hx) (tX12_sign_b244 hn (c12.1.1 hR) h)
                    · replace h := qc_jn u22 h
                      refine And.imp_right (fun hx => qc_iload_n (qc_at qkX12_sign 98 rfl) rfl <| qc_bipush (qc_at qkX12_sign 99 rfl) <| hx) ?_
                      refine qc_andC (qc_icmp_eq (qc_at qkX12_sign 100 rfl)) (fun u23 => ?_) (fun u23 => ?_)
                      · replace h := qc_jp u23 h
                        exact And.imp_right (fun hx => qc_sub [1] rfl hx) (tX12_sign_b244 hn (c12.1.1 hR) h)
                      · replace h := qc_jn u23 h
                        refine And.imp_right (fun hx => qc_iload_n (qc_at qkX12_sign 101 rfl) rfl <| qc_bipush (qc_at qkX12_sign 102 rfl) <| hx) ?_
                        refine qc_andC (qc_icmp_eq (qc_at qkX12_sign 103 rfl)) (fun u24 => ?_) (fun u24 => ?_)
                        · replace h := qc_jp u24 h
                          exact And.imp_right (fun hx => qc_sub [1] rfl hx) (tX12_sign_b244 hn (c12.1.1 hR) h)
                        · replace h := qc_jn u24 h
                          refine And.imp_right (fun hx => qc_iload_n (qc_at qkX12_sign 104 rfl) rfl <| qc_bipush (qc_at qkX12_sign 105 rfl) <| hx) ?_
                          refine qc_andC (qc_icmp_eq (qc_at qkX12_sign 106 rfl)) (fun u25 => ?_) (fun u25 => ?_)
                          · replace h := qc_jp u25 h
                            exact And.imp_right (fun hx => qc_sub [1] rfl hx) (tX12_sign_b244 hn (c12.1.1 hR) h)
                          · replace h := qc_jn u25 h
                            refine And.imp_right (fun hx => qc_iload_n (qc_at qkX12_sign 107 rfl) rfl <| qc_bipush (qc_at qkX12_sign 108 rfl) <| hx) ?_
                            refine qc_andC (qc_icmp_eq (qc_at qkX12_sign 109 rfl)) (fun u26 => ?_) (fun u26 => ?_)
                            · replace h := qc_jp u26 h
                              exact And.imp_right (fun hx => qc_sub [1] rfl hx) (tX12_sign_b244 hn (c12.1.1 hR) h)
                            · replace h := qc_jn u26 h
                              refine And.imp_right (fun hx => qc_iload_n (qc_at qkX12_sign 110 rfl) rfl <| qc_bipush (qc_at qkX12_sign 111 rfl) <| hx) ?_
                              refine qc_andC (qc_icmp_eq (qc_at qkX12_sign 112 rfl)) (fun u27 => ?_) (fun u27 => ?_)
                              · replace h := qc_jp u27 h
                                exact And.imp_right (fun hx => qc_sub [1] rfl hx) (tX12_sign_b244 hn (c12.1.1 hR) h)
                              · replace h := qc_jn u27 h
                                refine And.imp_right (fun hx => qc_iload_n (qc_at qkX12_sign 113 rfl) rfl <| qc_bipush (qc_at qkX12_sign 114 rfl) <| hx) ?_
                                refine qc_andC (qc_icmp_eq (qc_at qkX12_sign 115 rfl)) (fun u28 => ?_) (fun u28 => ?_)
                                · replace h := qc_jp u28 h
                                  exact And.imp_right (fun hx => qc_sub [1] rfl hx) (tX12_sign_b244 hn (c12.1.1 hR) h)
                                · replace h := qc_jn u28 h
                                  refine And.imp_right (fun hx => qc_iload_n (qc_at qkX12_sign 116 rfl) rfl <| qc_bipush (qc_at qkX12_sign 117 rfl) <| hx) ?_
                                  refine qc_andC (qc_icmp_eq (qc_at qkX12_sign 118 rfl)) (fun u29 => ?_) (fun u29 => ?_)
                                  · replace h := qc_jp u29 h
                                    exact And.imp_right (fun hx => qc_sub [1] rfl hx) (tX12_sign_b244 hn (c12.1.1 hR) h)
                                  · replace h := qc_jn u29 h
                                    refine And.imp_right (fun hx => qc_iload_n (qc_at qkX12_sign 119 rfl) rfl <| qc_bipush (qc_at qkX12_sign 120 rfl) <| hx) ?_
                                    refine qc_andC (qc_icmp_eq (qc_at qkX12_sign 121 rfl)) (fun u30 => ?_) (fun u30 => ?_)
                                    · replace h := qc_jp u30 h
                                      exact And.imp_right (fun hx => qc_sub [1] rfl hx) (tX12_sign_b244 hn (c12.1.1 hR) h)
                                    · replace h := qc_jn u30 h
                                      refine And.imp_right (fun hx => qc_iload_n (qc_at qkX12_sign 122 rfl) rfl <| qc_bipush (qc_at qkX12_sign 123 rfl) <| hx) ?_
                                      refine qc_andC (qc_icmp_eq (qc_at qkX12_sign 124 rfl)) (fun u31 => ?_) (fun u31 => ?_)
                                      · replace h := qc_jp u31 h
                                        exact And.imp_right (fun hx => qc_sub [1] rfl hx) (tX12_sign_b244 hn (c12.1.1 hR) h)
                                      · replace h := qc_jn u31 h
                                        refine And.imp_right (fun hx => qc_iload_n (qc_at qkX12_sign 125 rfl) rfl <| qc_bipush (qc_at qkX12_sign 126 rfl) <| hx) ?_
                                        refine qc_andN (qc_icmp_ne (qc_at qkX12_sign 127 rfl)) (fun u32 => ?_) (fun u32 => ?_)
                                        · replace h := qc_jn u32 h
                                          exact And.imp_right (fun hx => qc_iconst (qc_at qkX12_sign 130 rfl) <| qc_sub [1] rfl hx) (tX12_sign_b249 hn (c12.1.1 hR) h)
                                        · replace h := qc_jp u32 h
                                          exact And.imp_right (fun hx => qc_sub [1] rfl hx) (tX12_sign_b244 hn (c12.1.1 hR) h)
        · replace h := qc_jp u16 h
          exact And.imp_right (fun hx => qc_sub [1, 2, 0] rfl hx) (tX12_sign_b106 hn (c12.1.1 hR) h)
    · replace h := qc_jp u14 h
      exact And.imp_right (fun hx => qc_sub [1, 2, 0] rfl hx) (tX12_sign_b26 hn (c12.1.1 hR) h)
