def fJ9_max_7cf53 (w : qcW) (I : qTI) (L : qTL) (D : qTD) (R : qTR) (x0 : Int32) (x1 : Int32) : qcO Int32 :=
  (if x0 < x1 then (some (x1, I, L, D, R)) else (some (x0, I, L, D, R)))
set_option maxRecDepth 100000 in
set_option maxHeartbeats 4000000 in
theorem tJ9_max_7cf53 {sd : Nat → Bool} {w : qcW} {I : qTI} {L : qTL} {D : qTD} {R : qTR} {x0 : Int32} {x1 : Int32} {r : Int32} {I' : qTI} {L' : qTL} {D' : qTD} {R' : qTR} (hn : qcNF ≤ w.1) (hR : qc_FR R) (h : fJ9_max_7cf53 w I L D R x0 x1 = some (r, I', L', D', R')) : qc_fm sd (I, L, D, R) (I', L', D', R') ∧ qc_V (0) 0 0 qmJ9_max_7cf53 [.int x0, .int x1] w (I, L, D, R) (qc_eq (some (.int r)) w (I', L', D', R')) := by
  unfold fJ9_max_7cf53 at h
  refine And.imp_right (fun hx => qc_V.ofF (by decide +kernel) rfl (Nat.le_of_ble_eq_true rfl) (lv := [(0, .int x0), (1, .int x1)]) rfl hx) ?_
  refine And.imp_right (fun hx => qc_iload_n (qc_at qkJ9_max_7cf53 0 rfl) rfl <| qc_iload_n (qc_at qkJ9_max_7cf53 1 rfl) rfl <| hx) ?_
  refine qc_andC (qc_icmp_lt (qc_at qkJ9_max_7cf53 2 rfl)) (fun u1 => ?_) (fun u1 => ?_)
  · replace h := qc_jp u1 h
    obtain ⟨rfl, rfl, rfl, rfl, rfl⟩ := qc_some5 h
    exact ⟨qc_fm.rf _, qc_iload_n (qc_at qkJ9_max_7cf53 5 rfl) rfl <| qc_iret (qc_at qkJ9_max_7cf53 6 rfl) rfl (Nat.le_refl _) (Nat.le_refl _) (qc_eq.rf _ _ _)⟩
  · replace h := qc_jn u1 h
    obtain ⟨rfl, rfl, rfl, rfl, rfl⟩ := qc_some5 h
    exact ⟨qc_fm.rf _, qc_iload_n (qc_at qkJ9_max_7cf53 3 rfl) rfl <| qc_goto (qc_at qkJ9_max_7cf53 4 rfl) <| qc_iret (qc_at qkJ9_max_7cf53 6 rfl) rfl (Nat.le_refl _) (Nat.le_refl _) (qc_eq.rf _ _ _)⟩
def fJ9_max_f86c9 (w : qcW) (I : qTI) (L : qTL) (D : qTD) (R : qTR) (x0 : Int64) (x2 : Int64) : qcO Int64 :=
  (if (lg_cmp x0 x2) < 0 then (some (x2, I, L, D, R)) else (some (x0, I, L, D, R)))
set_option maxRecDepth 100000 in
set_option maxHeartbeats 4000000 in
theorem tJ9_max_f86c9 {sd : Nat → Bool} {w : qcW} {I : qTI} {L : qTL} {D : qTD} {R : qTR} {x0 : Int64} {x2 : Int64} {r : Int64} {I' : qTI} {L' : qTL} {D' : qTD} {R' : qTR} (hn : qcNF ≤ w.1) (hR : qc_FR R) (h : fJ9_max_f86c9 w I L D R x0 x2 = some (r, I', L', D', R')) : qc_fm sd (I, L, D, R) (I', L', D', R') ∧ qc_V (0) 0 0 qmJ9_max_f86c9 [.long x0, .long x2] w (I, L, D, R) (qc_eq (some (.long r)) w (I', L', D', R')) := by
  unfold fJ9_max_f86c9 at h
  refine And.imp_right (fun hx => qc_V.ofF (by decide +kernel) rfl (Nat.le_of_ble_eq_true rfl) (lv := [(0, .long x0), (2, .long x2)]) rfl hx) ?_
  refine And.imp_right (fun hx => qc_lload_n (qc_at qkJ9_max_f86c9 0 rfl) rfl <| qc_lload_n (qc_at qkJ9_max_f86c9 1 rfl) rfl <| qc_lcmp (qc_at qkJ9_max_f86c9 2 rfl) <| hx) ?_
  refine qc_andC (qc_if_lt (qc_at qkJ9_max_f86c9 3 rfl)) (fun u1 => ?_) (fun u1 => ?_)
  · replace h := qc_jp u1 h
    obtain ⟨rfl, rfl, rfl, rfl, rfl⟩ := qc_some5 h
    exact ⟨qc_fm.rf _, qc_lload_n (qc_at qkJ9_max_f86c9 6 rfl) rfl <| qc_lret (qc_at qkJ9_max_f86c9 7 rfl) rfl (Nat.le_refl _) (Nat.le_refl _) (qc_eq.rf _ _ _)⟩
  · replace h := qc_jn u1 h
    obtain ⟨rfl, rfl, rfl, rfl, rfl⟩ := qc_some5 h
    exact ⟨qc_fm.rf _, qc_lload_n (qc_at qkJ9_max_f86c9 4 rfl) rfl <| qc_goto (qc_at qkJ9_max_f86c9 5 rfl) <| qc_lret (qc_at qkJ9_max_f86c9 7 rfl) rfl (Nat.le_refl _) (Nat.le_refl _) (qc_eq.rf _ _ _)⟩
def fJ9_min_7cf53 (w : qcW) (I : qTI) (L : qTL) (D : qTD) (R : qTR) (x0 : Int32) (x1 : Int32) : qcO Int32 :=
  (if x1 < x0 then (some (x1, I, L, D, R)) else (some (x0, I, L, D, R)))
set_option maxRecDepth 100000 in
set_option maxHeartbeats 4000000 in
theorem tJ9_min_7cf53 {sd : Nat → Bool} {w : qcW} {I : qTI} {L : qTL} {D : qTD} {R : qTR} {x0 : Int32} {x1 : Int32} {r : Int32} {I' : qTI} {L' : qTL} {D' : qTD} {R' : qTR} (hn : qcNF ≤ w.1) (hR : qc_FR R) (h : fJ9_min_7cf53 w I L D R x0 x1 = some (r, I', L', D', R')) : qc_fm sd (I, L, D, R) (I', L', D', R') ∧ qc_V (0) 0 0 qmJ9_min_7cf53 [.int x0, .int x1] w (I, L, D, R) (qc_eq (some (.int r)) w (I', L', D', R')) := by
  unfold fJ9_min_7cf53 at h
  refine And.imp_right (fun hx => qc_V.ofF (by decide +kernel) rfl (Nat.le_of_ble_eq_true rfl) (lv := [(0, .int x0), (1, .int x1)]) rfl hx) ?_
  refine And.imp_right (fun hx => qc_iload_n (qc_at qkJ9_min_7cf53 0 rfl) rfl <| qc_iload_n (qc_at qkJ9_min_7cf53 1 rfl) rfl <| hx) ?_
  refine qc_andC (qc_icmp_gt (qc_at qkJ9_min_7cf53 2 rfl)) (fun u1 => ?_) (fun u1 => ?_)
  · replace h := qc_jp u1 h
    obtain ⟨rfl, rfl, rfl, rfl, rfl⟩ := qc_some5 h
    exact ⟨qc_fm.rf _, qc_iload_n (qc_at qkJ9_min_7cf53 5 rfl) rfl <| qc_iret (qc_at qkJ9_min_7cf53 6 rfl) rfl (Nat.le_refl _) (Nat.le_refl _) (qc_eq.rf _ _ _)⟩
  · replace h := qc_jn u1 h
    obtain ⟨rfl, rfl, rfl, rfl, rfl⟩ := qc_some5 h
    exact ⟨qc_fm.rf _, qc_iload_n (qc_at qkJ9_min_7cf53 3 rfl) rfl <| qc_goto (qc_at qkJ9_min_7cf53 4 rfl) <| qc_iret (qc_at qkJ9_min_7cf53 6 rfl) rfl (Nat.le_refl _) (Nat.le_refl _) (qc_eq.rf _ _ _)⟩
def fJ9_min_f86c9 (w : qcW) (I : qTI) (L : qTL) (D : qTD) (R : qTR) (x0 : Int64) (x2 : Int64) : qcO Int64 :=
  (if 0 < (lg_cmp x0 x2) then (some (x2, I, L, D, R)) else (some (x0, I, L, D, R)))
set_option maxRecDepth 100000 in
set_option maxHeartbeats 4000000 in
theorem tJ9_min_f86c9 {sd : Nat → Bool} {w : qcW} {I : qTI} {L : qTL} {D : qTD} {R : qTR} {x0 : Int64} {x2 : Int64} {r : Int64} {I' : qTI} {L' : qTL} {D' : qTD} {R' : qTR} (hn : qcNF ≤ w.1) (hR : qc_FR R) (h : fJ9_min_f86c9 w I L D R x0 x2 = some (r, I', L', D', R')) : qc_fm sd (I, L, D, R) (I', L', D', R') ∧ qc_V (0) 0 0 qmJ9_min_f86c9 [.long x0, .long x2] w (I, L, D, R) (qc_eq (some (.long r)) w (I', L', D', R')) := by
  unfold fJ9_min_f86c9 at h
  refine And.imp_right (fun hx => qc_V.ofF (by decide +kernel) rfl (Nat.le_of_ble_eq_true rfl) (lv := [(0, .long x0), (2, .long x2)]) rfl hx) ?_
  refine And.imp_right (fun hx => qc_lload_n (qc_at qkJ9_min_f86c9 0 rfl) rfl <| qc_lload_n (qc_at qkJ9_min_f86c9 1 rfl) rfl <| qc_lcmp (qc_at qkJ9_min_f86c9 2 rfl) <| hx) ?_
  refine qc_andC (qc_if_gt (qc_at qkJ9_min_f86c9 3 rfl)) (fun u1 => ?_) (fun u1 => ?_)
  · replace h := qc_jp u1 h
    obtain ⟨rfl, rfl, rfl, rfl, rfl⟩ := qc_some5 h
    exact ⟨qc_fm.rf _, qc_lload_n (qc_at qkJ9_min_f86c9 6 rfl) rfl <| qc_lret (qc_at qkJ9_min_f86c9 7 rfl) rfl (Nat.le_refl _) (Nat.le_refl _) (qc_eq.rf _ _ _)⟩
  · replace h := qc_jn u1 h
    obtain ⟨rfl, rfl, rfl, rfl, rfl⟩ := qc_some5 h
    exact ⟨qc_fm.rf _, qc_lload_n (qc_at qkJ9_min_f86c9 4 rfl) rfl <| qc_goto (qc_at qkJ9_min_f86c9 5 rfl) <| qc_lret (qc_at qkJ9_min_f86c9 7 rfl) rfl (Nat.le_refl _) (Nat.le_refl _) (qc_eq.rf _ _ _)⟩
def fJ13_compare_74951 (w : qcW) (I : qTI) (L : qTL) (D : qTD) (R : qTR) (x0 : Int64) (x2 : Int64) : qcO Int32 :=
  (if 0 ≤ (lg_cmp x0 x2) then (if (lg_cmp x0 x2) = 0 then (some ((0 : Int32), I, L, D, R)) else (some ((1 : Int32), I, L, D, R))) else (some ((-1 : Int32), I, L, D, R)))
set_option maxRecDepth 100000 in
set_option maxHeartbeats 4000000 in
theorem tJ13_compare_74951 {sd : Nat → Bool} {w : qcW} {I : qTI} {L : qTL} {D : qTD} {R : qTR} {x0 : Int64} {x2 : Int64} {r : Int32} {I' : qTI} {L' : qTL} {D' : qTD} {R' : qTR} (hn : qcNF ≤ w.1) (hR : qc_FR R) (h : fJ13_compare_74951 w I L D R x0 x2 = some (r, I', L', D', R')) : qc_fm sd (I, L, D, R) (I', L', D', R') ∧ qc_V (0) 0 0 qmJ13_compare_74951 [.long x0, .long x2] w (I, L, D, R) (qc_eq (some (.int r)) w (I', L', D', R')) := by
  unfold fJ13_compare_74951 at h
  refine And.imp_right (fun hx => qc_V.of rfl rfl (Nat.le_of_ble_eq_true rfl) (lv := [(0, .long x0), (2, .long x2)]) rfl hx) ?_
  refine And.imp_right (fun hx => qc_lload_n (qc_at qkJ13_compare_74951 0 rfl) rfl <| qc_lload_n (qc_at qkJ13_compare_74951 1 rfl) rfl <| qc_lcmp (qc_at qkJ13_compare_74951 2 rfl) <| hx) ?_
  refine qc_andC (qc_if_ge (qc_at qkJ13_compare_74951 3 rfl)) (fun u1 => ?_) (fun u1 => ?_)
  · replace h := qc_jp u1 h
    refine And.imp_right (fun hx => qc_lload_n (qc_at qkJ13_compare_74951 6 rfl) rfl <| qc_lload_n (qc_at qkJ13_compare_74951 7 rfl) rfl <| qc_lcmp (qc_at qkJ13_compare_74951 8 rfl) <| hx) ?_
    refine qc_andN (qc_if_ne (qc_at qkJ13_compare_74951 9 rfl)) (fun u2 => ?_) (fun u2 => ?_)
    · replace h := qc_jn u2 h
      obtain ⟨rfl, rfl, rfl, rfl, rfl⟩ := qc_some5 h
      exact ⟨qc_fm.rf _, qc_iconst (qc_at qkJ13_compare_74951 12 rfl) <| qc_iret (qc_at qkJ13_compare_74951 13 rfl) rfl (Nat.le_refl _) (Nat.le_refl _) (qc_eq.rf _ _ _)⟩
    · replace h := qc_jp u2 h
      obtain ⟨rfl, rfl, rfl, rfl, rfl⟩ := qc_some5 h
      exact ⟨qc_fm.rf _, qc_iconst (qc_at qkJ13_compare_74951 10 rfl) <| qc_goto (qc_at qkJ13_compare_74951 11 rfl) <| qc_iret (qc_at qkJ13_compare_74951 13 rfl) rfl (Nat.le_refl _) (Nat.le_refl _) (qc_eq.rf _ _ _)⟩
  · replace h := qc_jn u1 h
    obtain ⟨rfl, rfl, rfl, rfl, rfl⟩ := qc_some5 h
    exact ⟨qc_fm.rf _, qc_iconst (qc_at qkJ13_compare_74951 4 rfl) <| qc_goto (qc_at qkJ13_compare_74951 5 rfl) <| qc_iret (qc_at qkJ13_compare_74951 13 rfl) rfl (Nat.le_refl _) (Nat.le_refl _) (qc_eq.rf _ _ _)⟩
def fJxe99ae_isNaN_b9ae7 (w : qcW) (I : qTI) (L : qTL) (D : qTD) (R : qTR) (x0 : UInt64) : qcO Bool :=
  (if (Op.cmpValue (FP.dcmp x0 x0) .l) = 0 then (some (false, I, L, D, R)) else (some (true, I, L, D, R)))
set_option maxRecDepth 100000 in
set_option maxHeartbeats 4000000 in
theorem tJxe99ae_isNaN_b9ae7 {sd : Nat → Bool} {w : qcW} {I : qTI} {L : qTL} {D : qTD} {R : qTR} {x0 : UInt64} {r : Bool} {I' : qTI} {L' : qTL} {D' : qTD} {R' : qTR} (hn : qcNF ≤ w.1) (hR : qc_FR R) (h : fJxe99ae_isNaN_b9ae7 w I L D R x0 = some (r, I', L', D', R')) : qc_fm sd (I, L, D, R) (I', L', D', R') ∧ qc_V (0) 0 0 qmJxe99ae_isNaN_b9ae7 [.double x0] w (I, L, D, R) (qc_eq (some (.int (qc_b r))) w (I', L', D', R')) := by
  unfold fJxe99ae_isNaN_b9ae7 at h
  refine And.imp_right (fun hx => qc_V.of rfl rfl (Nat.le_of_ble_eq_true rfl) (lv := [(0, .double x0)]) rfl hx) ?_
  refine And.imp_right (fun hx => qc_dload_n (qc_at qkJxe99ae_isNaN_b9ae7 0 rfl) rfl <| qc_dload_n (qc_at qkJxe99ae_isNaN_b9ae7 1 rfl) rfl <| qc_dcmp (qc_at qkJxe99ae_isNaN_b9ae7 2 rfl) <| hx) ?_
  refine qc_andC (qc_if_eq (qc_at qkJxe99ae_isNaN_b9ae7 3 rfl)) (fun u1 => ?_) (fun u1 => ?_)
  · replace h := qc_jp u1 h
    obtain ⟨rfl, rfl, rfl, rfl, rfl⟩ := qc_some5 h
    exact ⟨qc_fm.rf _, qc_iconst (qc_at qkJxe99ae_isNaN_b9ae7 6 rfl) <| qc_zret (qc_at qkJxe99ae_isNaN_b9ae7 7 rfl) rfl (Or.inl rfl) (Nat.le_refl _) (Nat.le_refl _) ⟨rfl, rfl, rfl⟩⟩
  · replace h := qc_jn u1 h
    obtain ⟨rfl, rfl, rfl, rfl, rfl⟩ := qc_some5 h
    exact ⟨qc_fm.rf _, qc_iconst (qc_at qkJxe99ae_isNaN_b9ae7 4 rfl) <| qc_goto (qc_at qkJxe99ae_isNaN_b9ae7 5 rfl) <| qc_zret (qc_at qkJxe99ae_isNaN_b9ae7 7 rfl) rfl (Or.inr rfl) (Nat.le_refl _) (Nat.le_refl _) ⟨rfl, rfl, rfl⟩⟩
def fJxe99ae_doubleToLongBits_ccdee (w : qcW) (I : qTI) (L : qTL) (D : qTD) (R : qTR) (x0 : UInt64) : qcO Int64 :=
  (qc_bd (fJxe99ae_isNaN_b9ae7 w I L D R x0) fun r1 I1 L1 D1 R1 => if r1 = true then (some ((9221120237041090560 : Int64), I1, L1, D1, R1)) else (some ((UInt64.toInt64 x0), I1, L1, D1, R1)))
set_option maxRecDepth 100000 in
set_option maxHeartbeats 4000000 in
theorem tJxe99ae_doubleToLongBits_ccdee {sd : Nat → Bool} {w : qcW} {I : qTI} {L : qTL} {D : qTD} {R : qTR} {x0 : UInt64} {r : Int64} {I' : qTI} {L' : qTL} {D' : qTD} {R' : qTR} (hn : qcNF ≤ w.1) (hR : qc_FR R) (h : fJxe99ae_doubleToLongBits_ccdee w I L D R x0 = some (r, I', L', D', R')) : qc_fm sd (I, L, D, R) (I', L', D', R') ∧ qc_V (1) 0 0 qmJxe99ae_doubleToLongBits_ccdee [.double x0] w (I, L, D, R) (qc_eq (some (.long r)) w (I', L', D', R')) := by
  unfold fJxe99ae_doubleToLongBits_ccdee at h
  refine And.imp_right (fun hx => qc_V.of rfl rfl (Nat.le_of_ble_eq_true rfl) (lv := [(0, .double x0)]) rfl hx) ?_
  refine And.imp_right (fun hx => qc_dload_n (qc_at qkJxe99ae_doubleToLongBits_ccdee 0 rfl) rfl <| hx) ?_
  obtain ⟨r1, I1, L1, D1, R1, e1, h⟩ := qc_bd_of h
  have c1 := (tJxe99ae_isNaN_b9ae7 (sd := sd) hn hR e1)
  refine qd_cSv (qc_at qkJxe99ae_doubleToLongBits_ccdee 1 rfl) ql_20_122 qfJxe99ae_isNaN_b9ae7 c1 rfl rfl (Nat.le_of_ble_eq_true rfl) (qc_rml (by decide) (by decide)) ⟨Nat.zero_le _, Nat.zero_le _⟩ ?_
  refine qc_andBn (qc_ifB_ne (qc_at qkJxe99ae_doubleToLongBits_ccdee 2 rfl)) (fun u2 => ?_) (fun u2 => ?_)
  · replace h := qc_jt u2 h
    obtain ⟨rfl, rfl, rfl, rfl, rfl⟩ := qc_some5 h
    exact ⟨qc_fm.rf _, qc_ldc2l (qc_at qkJxe99ae_doubleToLongBits_ccdee 6 rfl) <| qc_lret (qc_at qkJxe99ae_doubleToLongBits_ccdee 7 rfl) rfl (Nat.le_refl _) (Nat.le_refl _) (qc_eq.rf _ _ _)⟩
  · replace h := qc_jf u2 h
    obtain ⟨rfl, rfl, rfl, rfl, rfl⟩ := qc_some5 h
    exact ⟨qc_fm.rf _, qc_dload_n (qc_at qkJxe99ae_doubleToLongBits_ccdee 3 rfl) rfl <| qj_d2l (qc_at qkJxe99ae_doubleToLongBits_ccdee 4 rfl) qj_d2lL20_134 (Nat.le_of_ble_eq_true rfl) ⟨by decide, by decide⟩ <| qc_lret (qc_at qkJxe99ae_doubleToLongBits_ccdee 5 rfl) rfl (Nat.le_refl _) (Nat.le_refl _) (qc_eq.rf _ _ _)⟩
def fJxf58ca_isNaN_12338 (w : qcW) (I : qTI) (L : qTL) (D : qTD) (R : qTR) (x0 : UInt32) : qcO Bool :=
  (if (Op.cmpValue (FP.fcmp x0 x0) .l) = 0 then (some (false, I, L, D, R)) else (some (true, I, L, D, R)))
set_option maxRecDepth 100000 in
set_option maxHeartbeats 4000000 in
theorem tJxf58ca_isNaN_12338 {sd : Nat → Bool} {w : qcW} {I : qTI} {L : qTL} {D : qTD} {R : qTR} {x0 : UInt32} {r : Bool} {I' : qTI} {L' : qTL} {D' : qTD} {R' : qTR} (hn : qcNF ≤ w.1) (hR : qc_FR R) (h : fJxf58ca_isNaN_12338 w I L D R x0 = some (r, I', L', D', R')) : qc_fm sd (I, L, D, R) (I', L', D', R') ∧ qc_V (0) 0 0 qmJxf58ca_isNaN_12338 [.float x0] w (I, L, D, R) (qc_eq (some (.int (qc_b r))) w (I', L', D', R')) := by
  unfold fJxf58ca_isNaN_12338 at h
  refine And.imp_right (fun hx => qc_V.ofF (by decide +kernel) rfl (Nat.le_of_ble_eq_true rfl) (lv := [(0, .float x0)]) rfl hx) ?_
  refine And.imp_right (fun hx => qc_fload_n (qc_at qkJxf58ca_isNaN_12338 0 rfl) rfl <| qc_fload_n (qc_at qkJxf58ca_isNaN_12338 1 rfl) rfl <| qc_fcmp (qc_at qkJxf58ca_isNaN_12338 2 rfl) <| hx) ?_
  refine qc_andC (qc_if_eq (qc_at qkJxf58ca_isNaN_12338 3 rfl)) (fun u1 => ?_) (fun u1 => ?_)
  · replace h := qc_jp u1 h
    obtain ⟨rfl, rfl, rfl, rfl, rfl⟩ := qc_some5 h
    exact ⟨qc_fm.rf _, qc_iconst (qc_at qkJxf58ca_isNaN_12338 6 rfl) <| qc_zret (qc_at qkJxf58ca_isNaN_12338 7 rfl) rfl (Or.inl rfl) (Nat.le_refl _) (Nat.le_refl _) ⟨rfl, rfl, rfl⟩⟩
  · replace h := qc_jn u1 h
    obtain ⟨rfl, rfl, rfl, rfl, rfl⟩ := qc_some5 h
    exact ⟨qc_fm.rf _, qc_iconst (qc_at qkJxf58ca_isNaN_12338 4 rfl) <| qc_goto (qc_at qkJxf58ca_isNaN_12338 5 rfl) <| qc_zret (qc_at qkJxf58ca_isNaN_12338 7 rfl) rfl (Or.inr rfl) (Nat.le_refl _) (Nat.le_refl _) ⟨rfl, rfl, rfl⟩⟩
def fJxf58ca_floatToIntBits_5c35a (w : qcW) (I : qTI) (L : qTL) (D : qTD) (R : qTR) (x0 : UInt32) : qcO Int32 :=
  (qc_bd (fJxf58ca_isNaN_12338 w I L D R x0) fun r1 I1 L1 D1 R1 => if r1 = true then (some ((2143289344 : Int32), I1, L1, D1, R1)) else (some ((UInt32.toInt32 x0), I1, L1, D1, R1)))
set_option maxRecDepth 100000 in
set_option maxHeartbeats 4000000 in
theorem tJxf58ca_floatToIntBits_5c35a {sd : Nat → Bool} {w : qcW} {I : qTI} {L : qTL} {D : qTD} {R : qTR} {x0 : UInt32} {r : Int32} {I' : qTI} {L' : qTL} {D' : qTD} {R' : qTR} (hn : qcNF ≤ w.1) (hR : qc_FR R) (h : fJxf58ca_floatToIntBits_5c35a w I L D R x0 = some (r, I', L', D', R')) : qc_fm sd (I, L, D, R) (I', L', D', R') ∧ qc_V (1) 0 0 qmJxf58ca_floatToIntBits_5c35a [.float x0] w (I, L, D, R) (qc_eq (some (.int r)) w (I', L', D', R')) := by
  unfold fJxf58ca_floatToIntBits_5c35a at h
  refine And.imp_right (fun hx => qc_V.ofF (by decide +kernel) rfl (Nat.le_of_ble_eq_true rfl) (lv := [(0, .float x0)]) rfl hx) ?_
  refine And.imp_right (fun hx => qc_fload_n (qc_at qkJxf58ca_floatToIntBits_5c35a 0 rfl) rfl <| hx) ?_
  obtain ⟨r1, I1, L1, D1, R1, e1, h⟩ := qc_bd_of h
  have c1 := (tJxf58ca_isNaN_12338 (sd := sd) hn hR e1)
  refine qd_cSv (qc_at qkJxf58ca_floatToIntBits_5c35a 1 rfl) ql_21_59 qfJxf58ca_isNaN_12338 c1 rfl rfl (Nat.le_of_ble_eq_true rfl) (qc_rml (by decide) (by decide)) ⟨Nat.zero_le _, Nat.zero_le _⟩ ?_
  refine qc_andBn (qc_ifB_ne (qc_at qkJxf58ca_floatToIntBits_5c35a 2 rfl)) (fun u2 => ?_) (fun u2 => ?_)
  · replace h := qc_jt u2 h
    obtain ⟨rfl, rfl, rfl, rfl, rfl⟩ := qc_some5 h
    exact ⟨qc_fm.rf _, qc_ldc (qc_at qkJxf58ca_floatToIntBits_5c35a 6 rfl) <| qc_iret (qc_at qkJxf58ca_floatToIntBits_5c35a 7 rfl) rfl (Nat.le_refl _) (Nat.le_refl _) (qc_eq.rf _ _ _)⟩
  · replace h := qc_jf u2 h
    obtain ⟨rfl, rfl, rfl, rfl, rfl⟩ := qc_some5 h
    exact ⟨qc_fm.rf _, qc_fload_n (qc_at qkJxf58ca_floatToIntBits_5c35a 3 rfl) rfl <| qj_f2i (qc_at qkJxf58ca_floatToIntBits_5c35a 4 rfl) qj_f2iL21_74 (Nat.le_of_ble_eq_true rfl) ⟨by decide, by decide⟩ <| qc_iret (qc_at qkJxf58ca_floatToIntBits_5c35a 5 rfl) rfl (Nat.le_refl _) (Nat.le_refl _) (qc_eq.rf _ _ _)⟩
