def fX1_present_b23 (w : qcW) (k4 : qTI × qTL × qTD × qTR × Int32 × Int32 → qcO Int32) (I : qTI) (L : qTL) (D : qTD) (R : qTR) (x1 : Int32) (x2 : Int32) : qcO Int32 :=
  (k4 (I, L, D, R, x1, (x2 + (1))))
set_option maxRecDepth 100000 in
set_option maxHeartbeats 4000000 in
theorem tX1_present_b23 {w : qcW} {I : qTI} {L : qTL} {D : qTD} {R : qTR} {k4 : qTI × qTL × qTD × qTR × Int32 × Int32 → qcO Int32} {x1 : Int32} {x2 : Int32} {r : Int32} {I' : qTI} {L' : qTL} {D' : qTD} {R' : qTR} (hn : qcNF ≤ w.1) (hR : qc_FR R) (hk4 : ∀ {I : qTI} {L : qTL} {D : qTD} {R : qTR} {x1 : Int32} {x2 : Int32} {r : Int32} {I' : qTI} {L' : qTL} {D' : qTD} {R' : qTR}, qc_FR R → k4 (I, L, D, R, x1, x2) = some (r, I', L', D', R') → qc_fm qcSX (I, L, D, R) (I', L', D', R') ∧ qc_X (qc_rm (0) 0 0) qmX1_present (qc_QM 0 0 (qc_eq (some (.int r)) w (I', L', D', R'))) 0 0 w (4, [(0, .ref 257), (1, .int x1), (2, .int x2)], [], I, L, D, R)) (h : fX1_present_b23 w k4 I L D R x1 x2 = some (r, I', L', D', R')) : qc_fm qcSX (I, L, D, R) (I', L', D', R') ∧ qc_X (qc_rm (0) 0 0) qmX1_present (qc_QM 0 0 (qc_eq (some (.int r)) w (I', L', D', R'))) 0 0 w (23, [(0, .ref 257), (1, .int x1), (2, .int x2)], [], I, L, D, R) := by
  unfold fX1_present_b23 at h
  exact And.imp_right (fun hx => qc_iinc (lv' := [(2, _), (0, _), (1, _)]) (qc_at qkX1_present 14 rfl) rfl rfl rfl <| qc_goto (qc_at qkX1_present 15 rfl) <| qc_sub [1, 2, 0] rfl hx) (hk4 hR h)
def fX1_present_b4 (w : qcW) (k4 : qTI × qTL × qTD × qTR × Int32 × Int32 → qcO Int32) (I : qTI) (L : qTL) (D : qTD) (R : qTR) (x1 : Int32) (x2 : Int32) : qcO Int32 :=
  (if (10 : Int32) ≤ x2 then (some (x1, I, L, D, R)) else (qc_gd (qc_inb x2 10) <| if (I 258 (Int32.toNatClampNeg x2)) = (-1 : Int32) then (fX1_present_b23 w k4 I L D R x1 x2) else (fX1_present_b23 w k4 I L D R (x1 + (1)) x2)))
set_option maxRecDepth 100000 in
set_option maxHeartbeats 4000000 in
theorem tX1_present_b4 {w : qcW} {I : qTI} {L : qTL} {D : qTD} {R : qTR} {k4 : qTI × qTL × qTD × qTR × Int32 × Int32 → qcO Int32} {x1 : Int32} {x2 : Int32} {r : Int32} {I' : qTI} {L' : qTL} {D' : qTD} {R' : qTR} (hn : qcNF ≤ w.1) (hR : qc_FR R) (hk4 : ∀ {I : qTI} {L : qTL} {D : qTD} {R : qTR} {x1 : Int32} {x2 : Int32} {r : Int32} {I' : qTI} {L' : qTL} {D' : qTD} {R' : qTR}, qc_FR R → k4 (I, L, D, R, x1, x2) = some (r, I', L', D', R') → qc_fm qcSX (I, L, D, R) (I', L', D', R') ∧ qc_X (qc_rm (0) 0 0) qmX1_present (qc_QM 0 0 (qc_eq (some (.int r)) w (I', L', D', R'))) 0 0 w (4, [(0, .ref 257), (1, .int x1), (2, .int x2)], [], I, L, D, R)) (h : fX1_present_b4 w k4 I L D R x1 x2 = some (r, I', L', D', R')) : qc_fm qcSX (I, L, D, R) (I', L', D', R') ∧ qc_X (qc_rm (0) 0 0) qmX1_present (qc_QM 0 0 (qc_eq (some (.int r)) w (I', L', D', R'))) 0 0 w (4, [(0, .ref 257), (1, .int x1), (2, .int x2)], [], I, L, D, R) := by
  unfold fX1_present_b4 at h
  refine And.imp_right (fun hx => qc_iload_n (qc_at qkX1_present 4 rfl) rfl <| qc_bipush (qc_at qkX1_present 5 rfl) <| hx) ?_
  refine qc_andC (qc_icmp_ge (qc_at qkX1_present 6 rfl)) (fun u1 => ?_) (fun u1 => ?_)
  · replace h := qc_jp u1 h
    obtain ⟨rfl, rfl, rfl, rfl, rfl⟩ := qc_some5 h
    exact ⟨qc_fm.rf _, qc_iload_n (qc_at qkX1_present 16 rfl) rfl <| qc_iret (qc_at qkX1_present 17 rfl) rfl (Nat.le_refl _) (Nat.le_refl _) (qc_eq.rf _ _ _)⟩
  · replace h := qc_jn u1 h
    refine And.imp_right (fun hx => qc_aload_n (qc_at qkX1_present 7 rfl) rfl <| qc_gR (qc_at qkX1_present 8 rfl) hn rfl (qfr_257_0 hR) rfl <| qc_iload_n (qc_at qkX1_present 9 rfl) rfl <| hx) ?_
    obtain ⟨g2, h⟩ := qc_gd_of h
    refine And.imp_right (fun hx => qc_iald 10 (qc_at qkX1_present 10 rfl) hn rfl (qc_inb_in g2) <| qc_iconst (qc_at qkX1_present 11 rfl) <| hx) ?_
    refine qc_andC (qc_icmp_eq (qc_at qkX1_present 12 rfl)) (fun u3 => ?_) (fun u3 => ?_)
    · replace h := qc_jp u3 h
      exact And.imp_right (fun hx => qc_sub [0, 1, 2] rfl hx) (tX1_present_b23 hn hR hk4 h)
    · replace h := qc_jn u3 h
      exact And.imp_right (fun hx => qc_iinc (lv' := [(1, _), (0, _), (2, _)]) (qc_at qkX1_present 13 rfl) rfl rfl rfl <| qc_sub [1, 0, 2] rfl hx) (tX1_present_b23 hn hR hk4 h)
def fX1_present_l4 (w : qcW) : Nat → qTI × qTL × qTD × qTR × Int32 × Int32 → qcO Int32 := qc_lp (fun k q => match q with | (I, L, D, R, x1, x2) => fX1_present_b4 w k I L D R x1 x2)
set_option maxRecDepth 100000 in
set_option maxHeartbeats 4000000 in
theorem tX1_present_l4 {w : qcW} (hn : qcNF ≤ w.1) : ∀ (n : Nat) {r : Int32} {I' : qTI} {L' : qTL} {D' : qTD} {R' : qTR} {I : qTI} {L : qTL} {D : qTD} {R : qTR} {x1 : Int32} {x2 : Int32} (hR : qc_FR R) (h : fX1_present_l4 w n (I, L, D, R, x1, x2) = some (r, I', L', D', R')), qc_fm qcSX (I, L, D, R) (I', L', D', R') ∧ qc_X (qc_rm (0) 0 0) qmX1_present (qc_QM 0 0 (qc_eq (some (.int r)) w (I', L', D', R'))) 0 0 w (4, [(0, .ref 257), (1, .int x1), (2, .int x2)], [], I, L, D, R) := by
  intro n
  induction n with
  | zero => intro _ _ _ _ _ _ _ _ _ _ _ _ h; cases h
  | succ n ih => intro _ _ _ _ _ _ _ _ _ _ _ hR h; exact tX1_present_b4 hn hR (k4 := fX1_present_l4 w n) (fun hR h => ih hR h) h
def fX1_present (w : qcW) (I : qTI) (L : qTL) (D : qTD) (R : qTR) : qcO Int32 :=
  (fX1_present_l4 w qcF (I, L, D, R, (0 : Int32), (0 : Int32)))
set_option maxRecDepth 100000 in
set_option maxHeartbeats 4000000 in
theorem tX1_present {w : qcW} {I : qTI} {L : qTL} {D : qTD} {R : qTR} {r : Int32} {I' : qTI} {L' : qTL} {D' : qTD} {R' : qTR} (hn : qcNF ≤ w.1) (hR : qc_FR R) (h : fX1_present w I L D R = some (r, I', L', D', R')) : qc_fm qcSX (I, L, D, R) (I', L', D', R') ∧ qc_V (0) 0 0 qmX1_present [.ref 257] w (I, L, D, R) (qc_eq (some (.int r)) w (I', L', D', R')) := by
  unfold fX1_present at h
  refine And.imp_right (fun hx => qc_V.of rfl rfl (Nat.le_of_ble_eq_true rfl) (lv := [(0, .ref 257)]) rfl hx) ?_
  exact And.imp_right (fun hx => qc_iconst (qc_at qkX1_present 0 rfl) <| qc_istore_n (lv' := [(1, _), (0, _)]) (qc_at qkX1_present 1 rfl) rfl rfl <| qc_iconst (qc_at qkX1_present 2 rfl) <| qc_istore_n (lv' := [(2, _), (1, _), (0, _)]) (qc_at qkX1_present 3 rfl) rfl rfl <| qc_sub [2, 1, 0] rfl hx) (tX1_present_l4 hn qcF hR h)
def fX1_leastLike_b2 (w : qcW) (k2 : qTI × qTL × qTD × qTR × Int32 × Int32 → qcO Int32) (I : qTI) (L : qTL) (D : qTD) (R : qTR) (x1 : Int32) (x2 : Int32) : qcO Int32 :=
  (if x1 ≤ x2 then (some (x1, I, L, D, R)) else (qc_gd (qc_inb x2 10) <| qc_gd (qc_inb x1 10) <| if (I 258 (Int32.toNatClampNeg x2)) = (I 258 (Int32.toNatClampNeg x1)) then (some (x2, I, L, D, R)) else (k2 (I, L, D, R, x1, (x2 + (1))))))
set_option maxRecDepth 100000 in
set_option maxHeartbeats 4000000 in
theorem tX1_leastLike_b2 {w : qcW} {I : qTI} {L : qTL} {D : qTD} {R : qTR} {k2 : qTI × qTL × qTD × qTR × Int32 × Int32 → qcO Int32} {x1 : Int32} {x2 : Int32} {r : Int32} {I' : qTI} {L' : qTL} {D' : qTD} {R' : qTR} (hn : qcNF ≤ w.1) (hR : qc_FR R) (hk2 : ∀ {I : qTI} {L : qTL} {D : qTD} {R : qTR} {x1 : Int32} {x2 : Int32} {r : Int32} {I' : qTI} {L' : qTL} {D' : qTD} {R' : qTR}, qc_FR R → k2 (I, L, D, R, x1, x2) = some (r, I', L', D', R') → qc_fm qcSX (I, L, D, R) (I', L', D', R') ∧ qc_X (qc_rm (0) 0 0) qmX1_leastLike (qc_QM 0 0 (qc_eq (some (.int r)) w (I', L', D', R'))) 0 0 w (2, [(0, .ref 257), (1, .int x1), (2, .int x2)], [], I, L, D, R)) (h : fX1_leastLike_b2 w k2 I L D R x1 x2 = some (r, I', L', D', R')) : qc_fm qcSX (I, L, D, R) (I', L', D', R') ∧ qc_X (qc_rm (0) 0 0) qmX1_leastLike (qc_QM 0 0 (qc_eq (some (.int r)) w (I', L', D', R'))) 0 0 w (2, [(0, .ref 257), (1, .int x1), (2, .int x2)], [], I, L, D, R) := by
  unfold fX1_leastLike_b2 at h
  refine And.imp_right (fun hx => qc_iload_n (qc_at qkX1_leastLike 2 rfl) rfl <| qc_iload_n (qc_at qkX1_leastLike 3 rfl) rfl <| hx) ?_
  refine qc_andC (qc_icmp_ge (qc_at qkX1_leastLike 4 rfl)) (fun u1 => ?_) (fun u1 => ?_)
  · replace h := qc_jp u1 h
    obtain ⟨rfl, rfl, rfl, rfl, rfl⟩ := qc_some5 h
    exact ⟨qc_fm.rf _, qc_iload_n (qc_at qkX1_leastLike 18 rfl) rfl <| qc_iret (qc_at qkX1_leastLike 19 rfl) rfl (Nat.le_refl _) (Nat.le_refl _) (qc_eq.rf _ _ _)⟩
  · replace h := qc_jn u1 h
    refine And.imp_right (fun hx => qc_aload_n (qc_at qkX1_leastLike 5 rfl) rfl <| qc_gR (qc_at qkX1_leastLike 6 rfl) hn rfl (qfr_257_0 hR) rfl <| qc_iload_n (qc_at qkX1_leastLike 7 rfl) rfl <| hx) ?_
    obtain ⟨g2, h⟩ := qc_gd_of h
    refine And.imp_right (fun hx => qc_iald 10 (qc_at qkX1_leastLike 8 rfl) hn rfl (qc_inb_in g2) <| qc_aload_n (qc_at qkX1_leastLike 9 rfl) rfl <| qc_gR (qc_at qkX1_leastLike 10 rfl) hn rfl (qfr_257_0 hR) rfl <| qc_iload_n (qc_at qkX1_leastLike 11 rfl) rfl <| hx) ?_
    obtain ⟨g3, h⟩ := qc_gd_of h
    refine And.imp_right (fun hx => qc_iald 10 (qc_at qkX1_leastLike 12 rfl) hn rfl (qc_inb_in g3) <| hx) ?_
    refine qc_andN (qc_icmp_ne (qc_at qkX1_leastLike 13 rfl)) (fun u4 => ?_) (fun u4 => ?_)
    · replace h := qc_jn u4 h
      exact And.imp_right (fun hx => qc_iinc (lv' := [(2, _), (0, _), (1, _)]) (qc_at qkX1_leastLike 16 rfl) rfl rfl rfl <| qc_goto (qc_at qkX1_leastLike 17 rfl) <| qc_sub [1, 2, 0] rfl hx) (hk2 hR h)
    · replace h := qc_jp u4 h
      obtain ⟨rfl, rfl, rfl, rfl, rfl⟩ := qc_some5 h
      exact ⟨qc_fm.rf _, qc_iload_n (qc_at qkX1_leastLike 14 rfl) rfl <| qc_iret (qc_at qkX1_leastLike 15 rfl) rfl (Nat.le_refl _) (Nat.le_refl _) (qc_eq.rf _ _ _)⟩
def fX1_leastLike_l2 (w : qcW) : Nat → qTI × qTL × qTD × qTR × Int32 × Int32 → qcO Int32 := qc_lp (fun k q => match q with | (I, L, D, R, x1, x2) => fX1_leastLike_b2 w k I L D R x1 x2)
set_option maxRecDepth 100000 in
set_option maxHeartbeats 4000000 in
theorem tX1_leastLike_l2 {w : qcW} (hn : qcNF ≤ w.1) : ∀ (n : Nat) {r : Int32} {I' : qTI} {L' : qTL} {D' : qTD} {R' : qTR} {I : qTI} {L : qTL} {D : qTD} {R : qTR} {x1 : Int32} {x2 : Int32} (hR : qc_FR R) (h : fX1_leastLike_l2 w n (I, L, D, R, x1, x2) = some (r, I', L', D', R')), qc_fm qcSX (I, L, D, R) (I', L', D', R') ∧ qc_X (qc_rm (0) 0 0) qmX1_leastLike (qc_QM 0 0 (qc_eq (some (.int r)) w (I', L', D', R'))) 0 0 w (2, [(0, .ref 257), (1, .int x1), (2, .int x2)], [], I, L, D, R) := by
  intro n
  induction n with
  | zero => intro _ _ _ _ _ _ _ _ _ _ _ _ h; cases h
  | succ n ih => intro _ _ _ _ _ _ _ _ _ _ _ hR h; exact tX1_leastLike_b2 hn hR (k2 := fX1_leastLike_l2 w n) (fun hR h => ih hR h) h
def fX1_leastLike (w : qcW) (I : qTI) (L : qTL) (D : qTD) (R : qTR) (x1 : Int32) : qcO Int32 :=
  (fX1_leastLike_l2 w qcF (I, L, D, R, x1, (0 : Int32)))
set_option maxRecDepth 100000 in
set_option maxHeartbeats 4000000 in
theorem tX1_leastLike {w : qcW} {I : qTI} {L : qTL} {D : qTD} {R : qTR} {x1 : Int32} {r : Int32} {I' : qTI} {L' : qTL} {D' : qTD} {R' : qTR} (hn : qcNF ≤ w.1) (hR : qc_FR R) (h : fX1_leastLike w I L D R x1 = some (r, I', L', D', R')) : qc_fm qcSX (I, L, D, R) (I', L', D', R') ∧ qc_V (0) 0 0 qmX1_leastLike [.ref 257, .int x1] w (I, L, D, R) (qc_eq (some (.int r)) w (I', L', D', R')) := by
  unfold fX1_leastLike at h
  refine And.imp_right (fun hx => qc_V.of rfl rfl (Nat.le_of_ble_eq_true rfl) (lv := [(0, .ref 257), (1, .int x1)]) rfl hx) ?_
  exact And.imp_right (fun hx => qc_iconst (qc_at qkX1_leastLike 0 rfl) <| qc_istore_n (lv' := [(2, _), (0, _), (1, _)]) (qc_at qkX1_leastLike 1 rfl) rfl rfl <| qc_sub [1, 2, 0] rfl hx) (tX1_leastLike_l2 hn qcF hR h)
def fX1_isUsed_b2 (w : qcW) (k2 : qTI × qTL × qTD × qTR × Int32 × Int32 → qcO Bool) (I : qTI) (L : qTL) (D : qTD) (R : qTR) (x1 : Int32) (x2 : Int32) : qcO Bool :=
  (if (10 : Int32) ≤ x2 then (some (false, I, L, D, R)) else (qc_gd (qc_inb x2 10) <| if (I 258 (Int32.toNatClampNeg x2)) = x1 then (some (true, I, L, D, R)) else (k2 (I, L, D, R, x1, (x2 + (1))))))
set_option maxRecDepth 100000 in
set_option maxHeartbeats 4000000 in
theorem tX1_isUsed_b2 {w : qcW} {I : qTI} {L : qTL} {D : qTD} {R : qTR} {k2 : qTI × qTL × qTD × qTR × Int32 × Int32 → qcO Bool} {x1 : Int32} {x2 : Int32} {r : Bool} {I' : qTI} {L' : qTL} {D' : qTD} {R' : qTR} (hn : qcNF ≤ w.1) (hR : qc_FR R) (hk2 : ∀ {I : qTI} {L : qTL} {D : qTD} {R : qTR} {x1 : Int32} {x2 : Int32} {r : Bool} {I' : qTI} {L' : qTL} {D' : qTD} {R' : qTR}, qc_FR R → k2 (I, L, D, R, x1, x2) = some (r, I', L', D', R') → qc_fm qcSX (I, L, D, R) (I', L', D', R') ∧ qc_X (qc_rm (0) 0 0) qmX1_isUsed (qc_QM 0 0 (qc_eq (some (.int (qc_b r))) w (I', L', D', R'))) 0 0 w (2, [(0, .ref 257), (1, .int x1), (2, .int x2)], [], I, L, D, R)) (h : fX1_isUsed_b2 w k2 I L D R x1 x2 = some (r, I', L', D', R')) : qc_fm qcSX (I, L, D, R) (I', L', D', R') ∧ qc_X (qc_rm (0) 0 0) qmX1_isUsed (qc_QM 0 0 (qc_eq (some (.int (qc_b r))) w (I', L', D', R'))) 0 0 w (2, [(0, .ref 257), (1, .int x1), (2, .int x2)], [], I, L, D, R) := by
  unfold fX1_isUsed_b2 at h
  refine And.imp_right (fun hx => qc_iload_n (qc_at qkX1_isUsed 2 rfl) rfl <| qc_bipush (qc_at qkX1_isUsed 3 rfl) <| hx) ?_
  refine qc_andC (qc_icmp_ge (qc_at qkX1_isUsed 4 rfl)) (fun u1 => ?_) (fun u1 => ?_)
  · replace h := qc_jp u1 h
    obtain ⟨rfl, rfl, rfl, rfl, rfl⟩ := qc_some5 h
    exact ⟨qc_fm.rf _, qc_iconst (qc_at qkX1_isUsed 15 rfl) <| qc_zret (qc_at qkX1_isUsed 16 rfl) rfl (Or.inl rfl) (Nat.le_refl _) (Nat.le_refl _) ⟨rfl, rfl, rfl⟩⟩
  · replace h := qc_jn u1 h
    refine And.imp_right (fun hx => qc_aload_n (qc_at qkX1_isUsed 5 rfl) rfl <| qc_gR (qc_at qkX1_isUsed 6 rfl) hn rfl (qfr_257_0 hR) rfl <| qc_iload_n (qc_at qkX1_isUsed 7 rfl) rfl <| hx) ?_
    obtain ⟨g2, h⟩ := qc_gd_of h
    refine And.imp_right (fun hx => qc_iald 10 (qc_at qkX1_isUsed 8 rfl) hn rfl (qc_inb_in g2) <| qc_iload_n (qc_at qkX1_isUsed 9 rfl) rfl <| hx) ?_
    refine qc_andN (qc_icmp_ne (qc_at qkX1_isUsed 10 rfl)) (fun u3 => ?_) (fun u3 => ?_)
    · replace h := qc_jn u3 h
      exact And.imp_right (fun hx => qc_iinc (lv' := [(2, _), (0, _), (1, _)]) (qc_at qkX1_isUsed 13 rfl) rfl rfl rfl <| qc_goto (qc_at qkX1_isUsed 14 rfl) <| qc_sub [1, 2, 0] rfl hx) (hk2 hR h)
    · replace h := qc_jp u3 h
      obtain ⟨rfl, rfl, rfl, rfl, rfl⟩ := qc_some5 h
      exact ⟨qc_fm.rf _, qc_iconst (qc_at qkX1_isUsed 11 rfl) <| qc_zret (qc_at qkX1_isUsed 12 rfl) rfl (Or.inr rfl) (Nat.le_refl _) (Nat.le_refl _) ⟨rfl, rfl, rfl⟩⟩
def fX1_isUsed_l2 (w : qcW) : Nat → qTI × qTL × qTD × qTR × Int32 × Int32 → qcO Bool := qc_lp (fun k q => match q with | (I, L, D, R, x1, x2) => fX1_isUsed_b2 w k I L D R x1 x2)
set_option maxRecDepth 100000 in
set_option maxHeartbeats 4000000 in
theorem tX1_isUsed_l2 {w : qcW} (hn : qcNF ≤ w.1) : ∀ (n : Nat) {r : Bool} {I' : qTI} {L' : qTL} {D' : qTD} {R' : qTR} {I : qTI} {L : qTL} {D : qTD} {R : qTR} {x1 : Int32} {x2 : Int32} (hR : qc_FR R) (h : fX1_isUsed_l2 w n (I, L, D, R, x1, x2) = some (r, I', L', D', R')), qc_fm qcSX (I, L, D, R) (I', L', D', R') ∧ qc_X (qc_rm (0) 0 0) qmX1_isUsed (qc_QM 0 0 (qc_eq (some (.int (qc_b r))) w (I', L', D', R'))) 0 0 w (2, [(0, .ref 257), (1, .int x1), (2, .int x2)], [], I, L, D, R) := by
  intro n
  induction n with
  | zero => intro _ _ _ _ _ _ _ _ _ _ _ _ h; cases h
  | succ n ih => intro _ _ _ _ _ _ _ _ _ _ _ hR h; exact tX1_isUsed_b2 hn hR (k2 := fX1_isUsed_l2 w n) (fun hR h => ih hR h) h
def fX1_isUsed (w : qcW) (I : qTI) (L : qTL) (D : qTD) (R : qTR) (x1 : Int32) : qcO Bool :=
  (fX1_isUsed_l2 w qcF (I, L, D, R, x1, (0 : Int32)))
set_option maxRecDepth 100000 in
set_option maxHeartbeats 4000000 in
theorem tX1_isUsed {w : qcW} {I : qTI} {L : qTL} {D : qTD} {R : qTR} {x1 : Int32} {r : Bool} {I' : qTI} {L' : qTL} {D' : qTD} {R' : qTR} (hn : qcNF ≤ w.1) (hR : qc_FR R) (h : fX1_isUsed w I L D R x1 = some (r, I', L', D', R')) : qc_fm qcSX (I, L, D, R) (I', L', D', R') ∧ qc_V (0) 0 0 qmX1_isUsed [.ref 257, .int x1] w (I, L, D, R) (qc_eq (some (.int (qc_b r))) w (I', L', D', R')) := by
  unfold fX1_isUsed at h
  refine And.imp_right (fun hx => qc_V.of rfl rfl (Nat.le_of_ble_eq_true rfl) (lv := [(0, .ref 257), (1, .int x1)]) rfl hx) ?_
  exact And.imp_right (fun hx => qc_iconst (qc_at qkX1_isUsed 0 rfl) <| qc_istore_n (lv' := [(2, _), (0, _), (1, _)]) (qc_at qkX1_isUsed 1 rfl) rfl rfl <| qc_sub [1, 2, 0] rfl hx) (tX1_isUsed_l2 hn qcF hR h)
def fX1_freeRow_b2 (w : qcW) (k2 : qTI × qTL × qTD × qTR × Int32 → qcO Int32) (I : qTI) (L : qTL) (D : qTD) (R : qTR) (x1 : Int32) : qcO Int32 :=
  (if (10 : Int32) ≤ x1 then (some ((0 : Int32), I, L, D, R)) else (qc_bd (fX1_isUsed w I L D R x1) fun r2 I2 L2 D2 R2 => if r2 = true then (k2 (I2, L2, D2, R2, (x1 + (1)))) else (some (x1, I2, L2, D2, R2))))
set_option maxRecDepth 100000 in
set_option maxHeartbeats 4000000 in
theorem tX1_freeRow_b2 {w : qcW} {I : qTI} {L : qTL} {D : qTD} {R : qTR} {k2 : qTI × qTL × qTD × qTR × Int32 → qcO Int32} {x1 : Int32} {r : Int32} {I' : qTI} {L' : qTL} {D' : qTD} {R' : qTR} (hn : qcNF ≤ w.1) (hR : qc_FR R) (hk2 : ∀ {I : qTI} {L : qTL} {D : qTD} {R : qTR} {x1 : Int32} {r : Int32} {I' : qTI} {L' : qTL} {D' : qTD} {R' : qTR}, qc_FR R → k2 (I, L, D, R, x1) = some (r, I', L', D', R') → qc_fm qcSX (I, L, D, R) (I', L', D', R') ∧ qc_X (qc_rm (1) 0 0) qmX1_freeRow (qc_QM 0 0 (qc_eq (some (.int r)) w (I', L', D', R'))) 0 0 w (2, [(0, .ref 257), (1, .int x1)], [], I, L, D, R)) (h : fX1_freeRow_b2 w k2 I L D R x1 = some (r, I', L', D', R')) : qc_fm qcSX (I, L, D, R) (I', L', D', R') ∧ qc_X (qc_rm (1) 0 0) qmX1_freeRow (qc_QM 0 0 (qc_eq (some (.int r)) w (I', L', D', R'))) 0 0 w (2, [(0, .ref 257), (1, .int x1)], [], I, L, D, R) := by
  unfold fX1_freeRow_b2 at h
  refine And.imp_right (fun hx => qc_iload_n (qc_at qkX1_freeRow 2 rfl) rfl <| qc_bipush (qc_at qkX1_freeRow 3 rfl) <| hx) ?_
  refine qc_andC (qc_icmp_ge (qc_at qkX1_freeRow 4 rfl)) (fun u1 => ?_) (fun u1 => ?_)
  · replace h := qc_jp u1 h
    obtain ⟨rfl, rfl, rfl, rfl, rfl⟩ := qc_some5 h
    exact ⟨qc_fm.rf _, qc_iconst (qc_at qkX1_freeRow 13 rfl) <| qc_iret (qc_at qkX1_freeRow 14 rfl) rfl (Nat.le_refl _) (Nat.le_refl _) (qc_eq.rf _ _ _)⟩
  · replace h := qc_jn u1 h
    refine And.imp_right (fun hx => qc_aload_n (qc_at qkX1_freeRow 5 rfl) rfl <| qc_iload_n (qc_at qkX1_freeRow 6 rfl) rfl <| hx) ?_
    obtain ⟨r2, I2, L2, D2, R2, e2, h⟩ := qc_bd_of h
    have c2 := (tX1_isUsed hn hR e2)
    refine qd_cVv (ci := 1) (a0 := 257) (qc_at qkX1_freeRow 7 rfl) ql_1_47 qfX1_isUsed (qc_kf hn rfl) rfl c2 rfl rfl (Nat.le_of_ble_eq_true rfl) (qc_rml (by decide) (by decide)) ⟨Nat.zero_le _, Nat.zero_le _⟩ ?_
    refine qc_andBn (qc_ifB_ne (qc_at qkX1_freeRow 8 rfl)) (fun u3 => ?_) (fun u3 => ?_)
    · replace h := qc_jt u3 h
      exact And.imp_right (fun hx => qc_iinc (lv' := [(1, _), (0, _)]) (qc_at qkX1_freeRow 11 rfl) rfl rfl rfl <| qc_goto (qc_at qkX1_freeRow 12 rfl) <| qc_sub [1, 0] rfl hx) (hk2 (c2.1.1 hR) h)
    · replace h := qc_jf u3 h
      obtain ⟨rfl, rfl, rfl, rfl, rfl⟩ := qc_some5 h
      exact ⟨qc_fm.rf _, qc_iload_n (qc_at qkX1_freeRow 9 rfl) rfl <| qc_iret (qc_at qkX1_freeRow 10 rfl) rfl (Nat.le_refl _) (Nat.le_refl _) (qc_eq.rf _ _ _)⟩
def fX1_freeRow_l2 (w : qcW) : Nat → qTI × qTL × qTD × qTR × Int32 → qcO Int32 := qc_lp (fun k q => match q with | (I, L, D, R, x1) => fX1_freeRow_b2 w k I L D R x1)
set_option maxRecDepth 100000 in
set_option maxHeartbeats 4000000 in
theorem tX1_freeRow_l2 {w : qcW} (hn : qcNF ≤ w.1) : ∀ (n : Nat) {r : Int32} {I' : qTI} {L' : qTL} {D' : qTD} {R' : qTR} {I : qTI} {L : qTL} {D : qTD} {R : qTR} {x1 : Int32} (hR : qc_FR R) (h : fX1_freeRow_l2 w n (I, L, D, R, x1) = some (r, I', L', D', R')), qc_fm qcSX (I, L, D, R) (I', L', D', R') ∧ qc_X (qc_rm (1) 0 0) qmX1_freeRow (qc_QM 0 0 (qc_eq (some (.int r)) w (I', L', D', R'))) 0 0 w (2, [(0, .ref 257), (1, .int x1)], [], I, L, D, R) := by
  intro n
  induction n with
  | zero => intro _ _ _ _ _ _ _ _ _ _ _ h; cases h
  | succ n ih => intro _ _ _ _ _ _ _ _ _ _ hR h; exact tX1_freeRow_b2 hn hR (k2 := fX1_freeRow_l2 w n) (fun hR h => ih hR h) h
def fX1_freeRow (w : qcW) (I : qTI) (L : qTL) (D : qTD) (R : qTR) : qcO Int32 :=
  (fX1_freeRow_l2 w qcF (I, L, D, R, (0 : Int32)))
set_option maxRecDepth 100000 in
set_option maxHeartbeats 4000000 in
theorem tX1_freeRow {w : qcW} {I : qTI} {L : qTL} {D : qTD} {R : qTR} {r : Int32} {I' : qTI} {L' : qTL} {D' : qTD} {R' : qTR} (hn : qcNF ≤ w.1) (hR : qc_FR R) (h : fX1_freeRow w I L D R = some (r, I', L', D', R')) : qc_fm qcSX (I, L, D, R) (I', L', D', R') ∧ qc_V (1) 0 0 qmX1_freeRow [.ref 257] w (I, L, D, R) (qc_eq (some (.int r)) w (I', L', D', R')) := by
  unfold fX1_freeRow at h
  refine And.imp_right (fun hx => qc_V.of rfl rfl (Nat.le_of_ble_eq_true rfl) (lv := [(0, .ref 257)]) rfl hx) ?_
  exact And.imp_right (fun hx => qc_iconst (qc_at qkX1_freeRow 0 rfl) <| qc_istore_n (lv' := [(1, _), (0, _)]) (qc_at qkX1_freeRow 1 rfl) rfl rfl <| qc_sub [1, 0] rfl hx) (tX1_freeRow_l2 hn qcF hR h)
def fX1_make_b32 (w : qcW) (k32 : qTI × qTL × qTD × qTR × Int32 × Int32 × Int32 → qcO Unit) (I : qTI) (L : qTL) (D : qTD) (R : qTR) (x1 : Int32) (x4 : Int32) (x5 : Int32) : qcO Unit :=
  (if (16 : Int32) ≤ x5 then (qc_gd (qc_inb x1 10) <| some ((), (qc_u I 258 (Int32.toNatClampNeg x1) x4), L, D, R)) else (qc_gd (qc_inb ((x4 * (16 : Int32)) + x5) 160) <| qc_gd (qc_inb ((x4 * (16 : Int32)) + x5) 160) <| k32 (I, (qc_u L 261 (Int32.toNatClampNeg ((x4 * (16 : Int32)) + x5)) (0 : Int64)), (qc_u D 262 (Int32.toNatClampNeg ((x4 * (16 : Int32)) + x5)) (0 : UInt64)), R, x1, x4, (x5 + (1)))))
set_option maxRecDepth 100000 in
set_option maxHeartbeats 4000000 in
theorem tX1_make_b32 {w : qcW} {I : qTI} {L : qTL} {D : qTD} {R : qTR} {k32 : qTI × qTL × qTD × qTR × Int32 × Int32 × Int32 → qcO Unit} {x1 : Int32} {x4 : Int32} {x5 : Int32} {r : Unit} {I' : qTI} {L' : qTL} {D' : qTD} {R' : qTR} (hn : qcNF ≤ w.1) (hR : qc_FR R) (hk32 : ∀ {I : qTI} {L : qTL} {D : qTD} {R : qTR} {x1 : Int32} {x4 : Int32} {x5 : Int32} {r : Unit} {I' : qTI} {L' : qTL} {D' : qTD} {R' : qTR}, qc_FR R → k32 (I, L, D, R, x1, x4, x5) = some (r, I', L', D', R') → qc_fm qcSX (I, L, D, R) (I', L', D', R') ∧ qc_X (qc_rm (2) 0 0) qmX1_make (qc_QM 0 0 (qc_eq none w (I', L', D', R'))) 0 0 w (32, [(0, .ref 257), (1, .int x1), (4, .int x4), (5, .int x5)], [], I, L, D, R)) (h : fX1_make_b32 w k32 I L D R x1 x4 x5 = some (r, I', L', D', R')) : qc_fm qcSX (I, L, D, R) (I', L', D', R') ∧ qc_X (qc_rm (2) 0 0) qmX1_make (qc_QM 0 0 (qc_eq none w (I', L', D', R'))) 0 0 w (32, [(0, .ref 257), (1, .int x1), (4, .int x4), (5, .int x5)], [], I, L, D, R) := by
  unfold fX1_make_b32 at h
  refine And.imp_right (fun hx => qc_iload (qc_at qkX1_make 20 rfl) rfl <| qc_bipush (qc_at qkX1_make 21 rfl) <| hx) ?_
  refine qc_andC (qc_icmp_ge (qc_at qkX1_make 22 rfl)) (fun u1 => ?_) (fun u1 => ?_)
  · replace h := qc_jp u1 h
    refine And.imp_right (fun hx => qc_aload_n (qc_at qkX1_make 43 rfl) rfl <| qc_gR (qc_at qkX1_make 44 rfl) hn rfl (qfr_257_0 hR) rfl <| qc_iload_n (qc_at qkX1_make 45 rfl) rfl <| qc_iload (qc_at qkX1_make 46 rfl) rfl <| hx) ?_
    obtain ⟨g2, h⟩ := qc_gd_of h
    refine qd_iast 10 (qc_at qkX1_make 47 rfl) hn rfl (qc_inb_in g2) rfl ?_
    obtain ⟨rfl, rfl, rfl, rfl, rfl⟩ := qc_some5 h
    exact ⟨qc_fm.rf _, qc_vret (qc_at qkX1_make 48 rfl) rfl (Nat.le_refl _) (Nat.le_refl _) (qc_eq.rf _ _ _)⟩
  · replace h := qc_jn u1 h
    refine And.imp_right (fun hx => qc_aload_n (qc_at qkX1_make 23 rfl) rfl <| qc_gR (qc_at qkX1_make 24 rfl) hn rfl (qfr_257_3 hR) rfl <| qc_iload (qc_at qkX1_make 25 rfl) rfl <| qc_bipush (qc_at qkX1_make 26 rfl) <| qc_imul (qc_at qkX1_make 27 rfl) <| qc_iload (qc_at qkX1_make 28 rfl) rfl <| qc_iadd (qc_at qkX1_make 29 rfl) <| qc_lconst (qc_at qkX1_make 30 rfl) <| hx) ?_
    obtain ⟨g3, h⟩ := qc_gd_of h
    refine qd_last 160 (qc_at qkX1_make 31 rfl) hn rfl (qc_inb_in g3) rfl ?_
    refine And.imp_right (fun hx => qc_aload_n (qc_at qkX1_make 32 rfl) rfl <| qc_gR (qc_at qkX1_make 33 rfl) hn rfl (qfr_257_4 hR) rfl <| qc_iload (qc_at qkX1_make 34 rfl) rfl <| qc_bipush (qc_at qkX1_make 35 rfl) <| qc_imul (qc_at qkX1_make 36 rfl) <| qc_iload (qc_at qkX1_make 37 rfl) rfl <| qc_iadd (qc_at qkX1_make 38 rfl) <| qc_dconst (qc_at qkX1_make 39 rfl) <| hx) ?_
    obtain ⟨g4, h⟩ := qc_gd_of h
    refine qd_dast 160 (qc_at qkX1_make 40 rfl) hn rfl (qc_inb_in g4) rfl ?_
    exact And.imp_right (fun hx => qc_iinc (lv' := [(5, _), (0, _), (1, _), (4, _)]) (qc_at qkX1_make 41 rfl) rfl rfl rfl <| qc_goto (qc_at qkX1_make 42 rfl) <| qc_sub [1, 2, 3, 0] rfl hx) (hk32 hR h)
def fX1_make_l32 (w : qcW) : Nat → qTI × qTL × qTD × qTR × Int32 × Int32 × Int32 → qcO Unit := qc_lp (fun k q => match q with | (I, L, D, R, x1, x4, x5) => fX1_make_b32 w k I L D R x1 x4 x5)
set_option maxRecDepth 100000 in
set_option maxHeartbeats 4000000 in
theorem tX1_make_l32 {w : qcW} (hn : qcNF ≤ w.1) : ∀ (n : Nat) {r : Unit} {I' : qTI} {L' : qTL} {D' : qTD} {R' : qTR} {I : qTI} {L : qTL} {D : qTD} {R : qTR} {x1 : Int32} {x4 : Int32} {x5 : Int32} (hR : qc_FR R) (h : fX1_make_l32 w n (I, L, D, R, x1, x4, x5) = some (r, I', L', D', R')), qc_fm qcSX (I, L, D, R) (I', L', D', R') ∧ qc_X (qc_rm (2) 0 0) qmX1_make (qc_QM 0 0 (qc_eq none w (I', L', D', R'))) 0 0 w (32, [(0, .ref 257), (1, .int x1), (4, .int x4), (5, .int x5)], [], I, L, D, R) := by
  intro n
  induction n with
  | zero => intro _ _ _ _ _ _ _ _ _ _ _ _ _ h; cases h
  | succ n ih => intro _ _ _ _ _ _ _ _ _ _ _ _ hR h; exact tX1_make_b32 hn hR (k32 := fX1_make_l32 w n) (fun hR h => ih hR h) h
def fX1_make (w : qcW) (I : qTI) (L : qTL) (D : qTD) (R : qTR) (x1 : Int32) (x2 : Int32) (x3 : Int32) : qcO Unit :=
  (qc_gd (qc_inb x1 10) <| qc_bd (fX1_freeRow w (qc_u I 258 (Int32.toNatClampNeg x1) (-1 : Int32)) L D R) fun r6 I6 L6 D6 R6 => qc_gd (qc_inb r6 10) <| qc_gd (qc_inb r6 10) <| fX1_make_l32 w qcF ((qc_u (qc_u I6 259 (Int32.toNatClampNeg r6) x2) 260 (Int32.toNatClampNeg r6) x3), L6, D6, R6, x1, r6, (0 : Int32)))
set_option maxRecDepth 100000 in
set_option maxHeartbeats 4000000 in
theorem tX1_make {w : qcW} {I : qTI} {L : qTL} {D : qTD} {R : qTR} {x1 : Int32} {x2 : Int32} {x3 : Int32} {r : Unit} {I' : qTI} {L' : qTL} {D' : qTD} {R' : qTR} (hn : qcNF ≤ w.1) (hR : qc_FR R) (h : fX1_make w I L D R x1 x2 x3 = some (r, I', L', D', R')) : qc_fm qcSX (I, L, D, R) (I', L', D', R') ∧ qc_V (2) 0 0 qmX1_make [.ref 257, .int x1, .int x2, .int x3] w (I, L, D, R) (qc_eq none w (I', L', D', R')) := by
  unfold fX1_make at h
  refine And.imp_right (fun hx => qc_V.of rfl rfl (Nat.le_of_ble_eq_true rfl) (lv := [(0, .ref 257), (1, .int x1), (2, .int x2), (3, .int x3)]) rfl hx) ?_
  refine And.imp_right (fun hx => qc_aload_n (qc_at qkX1_make 0 rfl) rfl <| qc_gR (qc_at qkX1_make 1 rfl) hn rfl (qfr_257_0 hR) rfl <| qc_iload_n (qc_at qkX1_make 2 rfl) rfl <| qc_iconst (qc_at qkX1_make 3 rfl) <| hx) ?_
  obtain ⟨g5, h⟩ := qc_gd_of h
  refine qd_iast 10 (qc_at qkX1_make 4 rfl) hn rfl (qc_inb_in g5) rfl ?_
  refine And.imp_right (fun hx => qc_aload_n (qc_at qkX1_make 5 rfl) rfl <| hx) ?_
  obtain ⟨r6, I6, L6, D6, R6, e6, h⟩ := qc_bd_of h
  have c6 := (tX1_freeRow hn hR e6)
  refine qd_cVv (ci := 1) (a0 := 257) (qc_at qkX1_make 6 rfl) ql_1_43 qfX1_freeRow (qc_kf hn rfl) rfl c6 rfl rfl (Nat.le_of_ble_eq_true rfl) (qc_rml (by decide) (by decide)) ⟨Nat.zero_le _, Nat.zero_le _⟩ ?_
  refine And.imp_right (fun hx => qc_istore (lv' := [(4, _), (0, _), (1, _), (2, _), (3, _)]) (qc_at qkX1_make 7 rfl) rfl rfl <| qc_aload_n (qc_at qkX1_make 8 rfl) rfl <| qc_gR (qc_at qkX1_make 9 rfl) hn rfl (qfr_257_1 (c6.1.1 hR)) rfl <| qc_iload (qc_at qkX1_make 10 rfl) rfl <| qc_iload_n (qc_at qkX1_make 11 rfl) rfl <| hx) ?_
  obtain ⟨g7, h⟩ := qc_gd_of h
  refine qd_iast 10 (qc_at qkX1_make 12 rfl) hn rfl (qc_inb_in g7) rfl ?_
  refine And.imp_right (fun hx => qc_aload_n (qc_at qkX1_make 13 rfl) rfl <| qc_gR (qc_at qkX1_make 14 rfl) hn rfl (qfr_257_2 (c6.1.1 hR)) rfl <| qc_iload (qc_at qkX1_make 15 rfl) rfl <| qc_iload_n (qc_at qkX1_make 16 rfl) rfl <| hx) ?_
  obtain ⟨g8, h⟩ := qc_gd_of h
  refine qd_iast 10 (qc_at qkX1_make 17 rfl) hn rfl (qc_inb_in g8) rfl ?_
  exact And.imp_right (fun hx => qc_iconst (qc_at qkX1_make 18 rfl) <| qc_istore (lv' := [(5, _), (4, _), (0, _), (1, _), (2, _), (3, _)]) (qc_at qkX1_make 19 rfl) rfl rfl <| qc_sub [2, 3, 1, 0] rfl hx) (tX1_make_l32 hn qcF (c6.1.1 hR) h)
def fX1_unite (w : qcW) (I : qTI) (L : qTL) (D : qTD) (R : qTR) (x1 : Int32) (x2 : Int32) : qcO Unit :=
  (qc_gd (qc_inb x2 10) <| qc_gd (qc_inb x1 10) <| some ((), (qc_u I 258 (Int32.toNatClampNeg x1) (I 258 (Int32.toNatClampNeg x2))), L, D, R))
set_option maxRecDepth 100000 in
set_option maxHeartbeats 4000000 in
theorem tX1_unite {w : qcW} {I : qTI} {L : qTL} {D : qTD} {R : qTR} {x1 : Int32} {x2 : Int32} {r : Unit} {I' : qTI} {L' : qTL} {D' : qTD} {R' : qTR} (hn : qcNF ≤ w.1) (hR : qc_FR R) (h : fX1_unite w I L D R x1 x2 = some (r, I', L', D', R')) : qc_fm qcSX (I, L, D, R) (I', L', D', R') ∧ qc_V (0) 0 0 qmX1_unite [.ref 257, .int x1, .int x2] w (I, L, D, R) (qc_eq none w (I', L', D', R')) := by
  unfold fX1_unite at h
  refine And.imp_right (fun hx => qc_V.of rfl rfl (Nat.le_of_ble_eq_true rfl) (lv := [(0, .ref 257), (1, .int x1), (2, .int x2)]) rfl hx) ?_
  refine And.imp_right (fun hx => qc_aload_n (qc_at qkX1_unite 0 rfl) rfl <| qc_gR (qc_at qkX1_unite 1 rfl) hn rfl (qfr_257_0 hR) rfl <| qc_iload_n (qc_at qkX1_unite 2 rfl) rfl <| qc_aload_n (qc_at qkX1_unite 3 rfl) rfl <| qc_gR (qc_at qkX1_unite 4 rfl) hn rfl (qfr_257_0 hR) rfl <| qc_iload_n (qc_at qkX1_unite 5 rfl) rfl <| hx) ?_
  obtain ⟨g1, h⟩ := qc_gd_of h
  refine And.imp_right (fun hx => qc_iald 10 (qc_at qkX1_unite 6 rfl) hn rfl (qc_inb_in g1) <| hx) ?_
  obtain ⟨g2, h⟩ := qc_gd_of h
  refine qd_iast 10 (qc_at qkX1_unite 7 rfl) hn rfl (qc_inb_in g2) rfl ?_
  obtain ⟨rfl, rfl, rfl, rfl, rfl⟩ := qc_some5 h
  exact ⟨qc_fm.rf _, qc_vret (qc_at qkX1_unite 8 rfl) rfl (Nat.le_refl _) (Nat.le_refl _) (qc_eq.rf _ _ _)⟩
def fX1_lose_b15 (w : qcW) (I : qTI) (L : qTL) (D : qTD) (R : qTR) (x1 : Int32) (s0 : Int32) : qcO Bool :=
  (qc_gd (qc_inb x1 10) <| qc_gd (qc_01 s0) <| some ((qc_isT s0), (qc_u I 258 (Int32.toNatClampNeg x1) (-1 : Int32)), L, D, R))
set_option maxRecDepth 100000 in
set_option maxHeartbeats 4000000 in
theorem tX1_lose_b15 {w : qcW} {I : qTI} {L : qTL} {D : qTD} {R : qTR} {x1 : Int32} {s0 : Int32} {r : Bool} {I' : qTI} {L' : qTL} {D' : qTD} {R' : qTR} (hn : qcNF ≤ w.1) (hR : qc_FR R) (h : fX1_lose_b15 w I L D R x1 s0 = some (r, I', L', D', R')) : qc_fm qcSX (I, L, D, R) (I', L', D', R') ∧ qc_X (qc_rm (0) 0 0) qmX1_lose (qc_QM 0 0 (qc_eq (some (.int (qc_b r))) w (I', L', D', R'))) 0 0 w (15, [(0, .ref 257), (1, .int x1)], [.int s0], I, L, D, R) := by
  unfold fX1_lose_b15 at h
  refine And.imp_right (fun hx => qc_istore_n (lv' := [(2, _), (0, _), (1, _)]) (qc_at qkX1_lose 9 rfl) rfl rfl <| qc_aload_n (qc_at qkX1_lose 10 rfl) rfl <| qc_gR (qc_at qkX1_lose 11 rfl) hn rfl (qfr_257_0 hR) rfl <| qc_iload_n (qc_at qkX1_lose 12 rfl) rfl <| qc_iconst (qc_at qkX1_lose 13 rfl) <| hx) ?_
  obtain ⟨g1, h⟩ := qc_gd_of h
  refine qd_iast 10 (qc_at qkX1_lose 14 rfl) hn rfl (qc_inb_in g1) rfl ?_
  obtain ⟨g2, h⟩ := qc_gd_of h
  obtain ⟨rfl, rfl, rfl, rfl, rfl⟩ := qc_some5 h
  exact ⟨qc_fm.rf _, qc_iload_n (qc_at qkX1_lose 15 rfl) rfl <| qc_zret (qc_at qkX1_lose 16 rfl) rfl (qc_01_of g2) (Nat.le_refl _) (Nat.le_refl _) ⟨by rw [qc_isT_b g2], rfl, rfl⟩⟩
def fX1_lose (w : qcW) (I : qTI) (L : qTL) (D : qTD) (R : qTR) (x1 : Int32) : qcO Bool :=
  (qc_gd (qc_inb x1 10) <| if (I 258 (Int32.toNatClampNeg x1)) = (-1 : Int32) then (fX1_lose_b15 w I L D R x1 (0 : Int32)) else (fX1_lose_b15 w I L D R x1 (1 : Int32)))
set_option maxRecDepth 100000 in
set_option maxHeartbeats 4000000 in
theorem tX1_lose {w : qcW} {I : qTI} {L : qTL} {D : qTD} {R : qTR} {x1 : Int32} {r : Bool} {I' : qTI} {L' : qTL} {D' : qTD} {R' : qTR} (hn : qcNF ≤ w.1) (hR : qc_FR R) (h : fX1_lose w I L D R x1 = some (r, I', L', D', R')) : qc_fm qcSX (I, L, D, R) (I', L', D', R') ∧ qc_V (0) 0 0 qmX1_lose [.ref 257, .int x1] w (I, L, D, R) (qc_eq (some (.int (qc_b r))) w (I', L', D', R')) := by
  unfold fX1_lose at h
  refine And.imp_right (fun hx => qc_V.of rfl rfl (Nat.le_of_ble_eq_true rfl) (lv := [(0, .ref 257), (1, .int x1)]) rfl hx) ?_
  refine And.imp_right (fun hx => qc_aload_n (qc_at qkX1_lose 0 rfl) rfl <| qc_gR (qc_at qkX1_lose 1 rfl) hn rfl (qfr_257_0 hR) rfl <| qc_iload_n (qc_at qkX1_lose 2 rfl) rfl <| hx) ?_
  obtain ⟨g3, h⟩ := qc_gd_of h
  refine And.imp_right (fun hx => qc_iald 10 (qc_at qkX1_lose 3 rfl) hn rfl (qc_inb_in g3) <| qc_iconst (qc_at qkX1_lose 4 rfl) <| hx) ?_
  refine qc_andC (qc_icmp_eq (qc_at qkX1_lose 5 rfl)) (fun u4 => ?_) (fun u4 => ?_)
  · replace h := qc_jp u4 h
    exact And.imp_right (fun hx => qc_iconst (qc_at qkX1_lose 8 rfl) <| qc_sub [0, 1] rfl hx) (tX1_lose_b15 hn hR h)
  · replace h := qc_jn u4 h
    exact And.imp_right (fun hx => qc_iconst (qc_at qkX1_lose 6 rfl) <| qc_goto (qc_at qkX1_lose 7 rfl) <| qc_sub [0, 1] rfl hx) (tX1_lose_b15 hn hR h)
def fX1_cellFault (w : qcW) (I : qTI) (L : qTL) (D : qTD) (R : qTR) (x1 : Int32) (x2 : Int32) (x3 : Int64) : qcO Int32 :=
  (qc_bd (fX1_isColumn w I L D R x1) fun r1 I1 L1 D1 R1 => if r1 = true then (qc_gd (qc_inb x1 10) <| if (I1 258 (Int32.toNatClampNeg x1)) = (-1 : Int32) then (some ((1 : Int32), I1, L1, D1, R1)) else (qc_gd (qc_inb x1 10) <| qc_gd (qc_inb (I1 258 (Int32.toNatClampNeg x1)) 10) <| if (I1 259 (Int32.toNatClampNeg (I1 258 (Int32.toNatClampNeg x1)))) = x2 then (if (lg_cmp x3 (0 : Int64)) < 0 then (some ((2 : Int32), I1, L1, D1, R1)) else (qc_gd (qc_inb x1 10) <| qc_gd (qc_inb (I1 258 (Int32.toNatClampNeg x1)) 10) <| if (lg_cmp x3 (Int32.toInt64 (I1 260 (Int32.toNatClampNeg (I1 258 (Int32.toNatClampNeg x1)))))) < 0 then (some ((0 : Int32), I1, L1, D1, R1)) else (some ((2 : Int32), I1, L1, D1, R1)))) else (some ((3 : Int32), I1, L1, D1, R1)))) else (some ((1 : Int32), I1, L1, D1, R1)))
set_option maxRecDepth 100000 in
set_option maxHeartbeats 4000000 in
theorem tX1_cellFault {w : qcW} {I : qTI} {L : qTL} {D : qTD} {R : qTR} {x1 : Int32} {x2 : Int32} {x3 : Int64} {r : Int32} {I' : qTI} {L' : qTL} {D' : qTD} {R' : qTR} (hn : qcNF ≤ w.1) (hR : qc_FR R) (h : fX1_cellFault w I L D R x1 x2 x3 = some (r, I', L', D', R')) : qc_fm qcSX (I, L, D, R) (I', L', D', R') ∧ qc_V (1) 0 0 qmX1_cellFault [.ref 257, .int x1, .int x2, .long x3] w (I, L, D, R) (qc_eq (some (.int r)) w (I', L', D', R')) := by
  unfold fX1_cellFault at h
  refine And.imp_right (fun hx => qc_V.of rfl rfl (Nat.le_of_ble_eq_true rfl) (lv := [(0, .ref 257), (1, .int x1), (2, .int x2), (3, .long x3)]) rfl hx) ?_
  refine And.imp_right (fun hx => qc_iload_n (qc_at qkX1_cellFault 0 rfl) rfl <| hx) ?_
  obtain ⟨r1, I1, L1, D1, R1, e1, h⟩ := qc_bd_of h
  have c1 := (tX1_isColumn hn hR e1)
  refine qd_cSv (qc_at qkX1_cellFault 1 rfl) ql_1_39 qfX1_isColumn c1 rfl rfl (Nat.le_of_ble_eq_true rfl) (qc_rml (by decide) (by decide)) ⟨Nat.zero_le _, Nat.zero_le _⟩ ?_
  refine qc_andB (qc_ifB_eq (qc_at qkX1_cellFault 2 rfl)) (fun u2 => ?_) (fun u2 => ?_)
  · replace h := qc_jf u2 h
    obtain ⟨rfl, rfl, rfl, rfl, rfl⟩ := qc_some5 h
    exact ⟨qc_fm.rf _, qc_iconst (qc_at qkX1_cellFault 9 rfl) <| qc_iret (qc_at qkX1_cellFault 10 rfl) rfl (Nat.le_refl _) (Nat.le_refl _) (qc_eq.rf _ _ _)⟩
  · replace h := qc_jt u2 h
    refine And.imp_right (fun hx => qc_aload_n (qc_at qkX1_cellFault 3 rfl) rfl <| qc_gR (qc_at qkX1_cellFault 4 rfl) hn rfl (qfr_257_0 (c1.1.1 hR)) rfl <| qc_iload_n (qc_at qkX1_cellFault 5 rfl) rfl <| hx) ?_
    obtain ⟨g3, h⟩ := qc_gd_of h
    refine And.imp_right (fun hx => qc_iald 10 (qc_at qkX1_cellFault 6 rfl) hn rfl (qc_inb_in g3) <| qc_iconst (qc_at qkX1_cellFault 7 rfl) <| hx) ?_
    refine qc_andN (qc_icmp_ne (qc_at qkX1_cellFault 8 rfl)) (fun u4 => ?_) (fun u4 => ?_)
    · replace h := qc_jn u4 h
      refine And.imp_right (fun hx => qc_aload_n (qc_at qkX1_cellFault 11 rfl) rfl <| qc_gR (qc_at qkX1_cellFault 12 rfl) hn rfl (qfr_257_1 (c1.1.1 hR)) rfl <| qc_aload_n (qc_at qkX1_cellFault 13 rfl) rfl <| qc_gR (qc_at qkX1_cellFault 14 rfl) hn rfl (qfr_257_0 (c1.1.1 hR)) rfl <| qc_iload_n (qc_at qkX1_cellFault 15 rfl) rfl <| hx) ?_
      obtain ⟨g5, h⟩ := qc_gd_of h
      refine And.imp_right (fun hx => qc_iald 10 (qc_at qkX1_cellFault 16 rfl) hn rfl (qc_inb_in g5) <| hx) ?_
      obtain ⟨g6, h⟩ := qc_gd_of h
      refine And.imp_right (fun hx => qc_iald 10 (qc_at qkX1_cellFault 17 rfl) hn rfl (qc_inb_in g6) <| qc_iload_n (qc_at qkX1_cellFault 18 rfl) rfl <| hx) ?_
      refine qc_andC (qc_icmp_eq (qc_at qkX1_cellFault 19 rfl)) (fun u7 => ?_) (fun u7 => ?_)
      · replace h := qc_jp u7 h
        refine And.imp_right (fun hx => qc_lload_n (qc_at qkX1_cellFault 22 rfl) rfl <| qc_lconst (qc_at qkX1_cellFault 23 rfl) <| qc_lcmp (qc_at qkX1_cellFault 24 rfl) <| hx) ?_
        refine qc_andC (qc_if_lt (qc_at qkX1_cellFault 25 rfl)) (fun u8 => ?_) (fun u8 => ?_)
        · replace h := qc_jp u8 h
          obtain ⟨rfl, rfl, rfl, rfl, rfl⟩ := qc_some5 h
          exact ⟨qc_fm.rf _, qc_iconst (qc_at qkX1_cellFault 37 rfl) <| qc_goto (qc_at qkX1_cellFault 38 rfl) <| qc_iret (qc_at qkX1_cellFault 40 rfl) rfl (Nat.le_refl _) (Nat.le_refl _) (qc_eq.rf _ _ _)⟩
        · replace h := qc_jn u8 h
          refine And.imp_right (fun hx => qc_lload_n (qc_at qkX1_cellFault 26 rfl) rfl <| qc_aload_n (qc_at qkX1_cellFault 27 rfl) rfl <| qc_gR (qc_at qkX1_cellFault 28 rfl) hn rfl (qfr_257_2 (c1.1.1 hR)) rfl <| qc_aload_n (qc_at qkX1_cellFault 29 rfl) rfl <| qc_gR (qc_at qkX1_cellFault 30 rfl) hn rfl (qfr_257_0 (c1.1.1 hR)) rfl <| qc_iload_n (qc_at qkX1_cellFault 31 rfl) rfl <| hx) ?_
          obtain ⟨g9, h⟩ := qc_gd_of h
          refine And.imp_right (fun hx => qc_iald 10 (qc_at qkX1_cellFault 32 rfl) hn rfl (qc_inb_in g9) <| hx) ?_
          obtain ⟨g10, h⟩ := qc_gd_of h
          refine And.imp_right (fun hx => qc_iald 10 (qc_at qkX1_cellFault 33 rfl) hn rfl (qc_inb_in g10) <| qc_i2l (qc_at qkX1_cellFault 34 rfl) <| qc_lcmp (qc_at qkX1_cellFault 35 rfl) <| hx) ?_
          refine qc_andC (qc_if_lt (qc_at qkX1_cellFault 36 rfl)) (fun u11 => ?_) (fun u11 => ?_)
          · replace h := qc_jp u11 h
            obtain ⟨rfl, rfl, rfl, rfl, rfl⟩ := qc_some5 h
            exact ⟨qc_fm.rf _, qc_iconst (qc_at qkX1_cellFault 39 rfl) <| qc_iret (qc_at qkX1_cellFault 40 rfl) rfl (Nat.le_refl _) (Nat.le_refl _) (qc_eq.rf _ _ _)⟩
          · replace h := qc_jn u11 h
            obtain ⟨rfl, rfl, rfl, rfl, rfl⟩ := qc_some5 h
            exact ⟨qc_fm.rf _, qc_iconst (qc_at qkX1_cellFault 37 rfl) <| qc_goto (qc_at qkX1_cellFault 38 rfl) <| qc_iret (qc_at qkX1_cellFault 40 rfl) rfl (Nat.le_refl _) (Nat.le_refl _) (qc_eq.rf _ _ _)⟩
      · replace h := qc_jn u7 h
        obtain ⟨rfl, rfl, rfl, rfl, rfl⟩ := qc_some5 h
        exact ⟨qc_fm.rf _, qc_iconst (qc_at qkX1_cellFault 20 rfl) <| qc_iret (qc_at qkX1_cellFault 21 rfl) rfl (Nat.le_refl _) (Nat.le_refl _) (qc_eq.rf _ _ _)⟩
    · replace h := qc_jp u4 h
      obtain ⟨rfl, rfl, rfl, rfl, rfl⟩ := qc_some5 h
      exact ⟨qc_fm.rf _, qc_iconst (qc_at qkX1_cellFault 9 rfl) <| qc_iret (qc_at qkX1_cellFault 10 rfl) rfl (Nat.le_refl _) (Nat.le_refl _) (qc_eq.rf _ _ _)⟩
def fX1_narrowed (w : qcW) (I : qTI) (L : qTL) (D : qTD) (R : qTR) (x0 : Int32) (x1 : Int64) : qcO Int64 :=
  (if x0 = 0 then (if (lg_cmp x1 (0 : Int64)) = 0 then (some ((0 : Int64), I, L, D, R)) else (some ((1 : Int64), I, L, D, R))) else if x0 = 1 then (some ((Int32.toInt64 (Int8.toInt32 (Int32.toInt8 (Int64.toInt32 x1)))), I, L, D, R)) else if x0 = 2 then (some ((Int32.toInt64 (Int16.toInt32 (Int32.toInt16 (Int64.toInt32 x1)))), I, L, D, R)) else if x0 = 3 then (some ((Int32.toInt64 (UInt32.toInt32 (Int32.toUInt32 (Int64.toInt32 x1) % 65536))), I, L, D, R)) else if x0 = 4 then (some ((Int32.toInt64 (Int64.toInt32 x1)), I, L, D, R)) else (some (x1, I, L, D, R)))
set_option maxRecDepth 100000 in
set_option maxHeartbeats 4000000 in
theorem tX1_narrowed {w : qcW} {I : qTI} {L : qTL} {D : qTD} {R : qTR} {x0 : Int32} {x1 : Int64} {r : Int64} {I' : qTI} {L' : qTL} {D' : qTD} {R' : qTR} (hn : qcNF ≤ w.1) (hR : qc_FR R) (h : fX1_narrowed w I L D R x0 x1 = some (r, I', L', D', R')) : qc_fm qcSX (I, L, D, R) (I', L', D', R') ∧ qc_V (0) 0 0 qmX1_narrowed [.int x0, .long x1] w (I, L, D, R) (qc_eq (some (.long r)) w (I', L', D', R')) := by
  unfold fX1_narrowed at h
  refine And.imp_right (fun hx => qc_V.of rfl rfl (Nat.le_of_ble_eq_true rfl) (lv := [(0, .int x0), (1, .long x1)]) rfl hx) ?_
  refine And.imp_right (fun hx => qc_iload_n (qc_at qkX1_narrowed 0 rfl) rfl <| hx) ?_
  refine qc_by (c := x0 = 0) (fun u1 => ?_) (fun u1 => ?_)
  · refine And.imp_right (fun hx => qc_tabIn (qc_at qkX1_narrowed 1 rfl) 0 (by rw [u1]; rfl) (by decide) rfl rfl hx) ?_
    replace h := qc_jp u1 h
    refine And.imp_right (fun hx => qc_lload_n (qc_at qkX1_narrowed 2 rfl) rfl <| qc_lconst (qc_at qkX1_narrowed 3 rfl) <| qc_lcmp (qc_at qkX1_narrowed 4 rfl) <| hx) ?_
    refine qc_andC (qc_if_eq (qc_at qkX1_narrowed 5 rfl)) (fun u2 => ?_) (fun u2 => ?_)
    · replace h := qc_jp u2 h
      obtain ⟨rfl, rfl, rfl, rfl, rfl⟩ := qc_some5 h
      exact ⟨qc_fm.rf _, qc_lconst (qc_at qkX1_narrowed 8 rfl) <| qc_lret (qc_at qkX1_narrowed 9 rfl) rfl (Nat.le_refl _) (Nat.le_refl _) (qc_eq.rf _ _ _)⟩
    · replace h := qc_jn u2 h
      obtain ⟨rfl, rfl, rfl, rfl, rfl⟩ := qc_some5 h
      exact ⟨qc_fm.rf _, qc_lconst (qc_at qkX1_narrowed 6 rfl) <| qc_goto (qc_at qkX1_narrowed 7 rfl) <| qc_lret (qc_at qkX1_narrowed 9 rfl) rfl (Nat.le_refl _) (Nat.le_refl _) (qc_eq.rf _ _ _)⟩
  · replace h := qc_jn u1 h
    refine qc_by (c := x0 = 1) (fun u3 => ?_) (fun u3 => ?_)
    · refine And.imp_right (fun hx => qc_tabIn (qc_at qkX1_narrowed 1 rfl) 1 (by rw [u3]; rfl) (by decide) rfl rfl hx) ?_
      replace h := qc_jp u3 h
      obtain ⟨rfl, rfl, rfl, rfl, rfl⟩ := qc_some5 h
      exact ⟨qc_fm.rf _, qc_lload_n (qc_at qkX1_narrowed 10 rfl) rfl <| qc_l2i (qc_at qkX1_narrowed 11 rfl) <| qc_i2b (qc_at qkX1_narrowed 12 rfl) <| qc_i2l (qc_at qkX1_narrowed 13 rfl) <| qc_lret (qc_at qkX1_narrowed 14 rfl) rfl (Nat.le_refl _) (Nat.le_refl _) (qc_eq.rf _ _ _)⟩
    · replace h := qc_jn u3 h
      refine qc_by (c := x0 = 2) (fun u4 => ?_) (fun u4 => ?_)
      · refine And.imp_right (fun hx => qc_tabIn (qc_at qkX1_narrowed 1 rfl) 2 (by rw [u4]; rfl) (by decide) rfl rfl hx) ?_
        replace h := qc_jp u4 h
        obtain ⟨rfl, rfl, rfl, rfl, rfl⟩ := qc_some5 h
        exact ⟨qc_fm.rf _, qc_lload_n (qc_at qkX1_narrowed 15 rfl) rfl <| qc_l2i (qc_at qkX1_narrowed 16 rfl) <| qc_i2s (qc_at qkX1_narrowed 17 rfl) <| qc_i2l (qc_at qkX1_narrowed 18 rfl) <| qc_lret (qc_at qkX1_narrowed 19 rfl) rfl (Nat.le_refl _) (Nat.le_refl _) (qc_eq.rf _ _ _)⟩
      · replace h := qc_jn u4 h
        refine qc_by (c := x0 = 3) (fun u5 => ?_) (fun u5 => ?_)
        · refine And.imp_right (fun hx => qc_tabIn (qc_at qkX1_narrowed 1 rfl) 3 (by rw [u5]; rfl) (by decide) rfl rfl hx) ?_
          replace h := qc_jp u5 h
          obtain ⟨rfl, rfl, rfl, rfl, rfl⟩ := qc_some5 h
          exact ⟨qc_fm.rf _, qc_lload_n (qc_at qkX1_narrowed 20 rfl) rfl <| qc_l2i (qc_at qkX1_narrowed 21 rfl) <| qc_i2c (qc_at qkX1_narrowed 22 rfl) <| qc_i2l (qc_at qkX1_narrowed 23 rfl) <| qc_lret (qc_at qkX1_narrowed 24 rfl) rfl (Nat.le_refl _) (Nat.le_refl _) (qc_eq.rf _ _ _)⟩
        · replace h := qc_jn u5 h
          refine qc_by (c := x0 = 4) (fun u6 => ?_) (fun u6 => ?_)
          · refine And.imp_right (fun hx => qc_tabIn (qc_at qkX1_narrowed 1 rfl) 4 (by rw [u6]; rfl) (by decide) rfl rfl hx) ?_
            replace h := qc_jp u6 h
            obtain ⟨rfl, rfl, rfl, rfl, rfl⟩ := qc_some5 h
            exact ⟨qc_fm.rf _, qc_lload_n (qc_at qkX1_narrowed 25 rfl) rfl <| qc_l2i (qc_at qkX1_narrowed 26 rfl) <| qc_i2l (qc_at qkX1_narrowed 27 rfl) <| qc_lret (qc_at qkX1_narrowed 28 rfl) rfl (Nat.le_refl _) (Nat.le_refl _) (qc_eq.rf _ _ _)⟩
          · replace h := qc_jn u6 h
            have v1 : ¬ Int32.toInt x0 = 0 := fun z => u1 (qc_i32 z rfl)
            have v3 : ¬ Int32.toInt x0 = 1 := fun z => u3 (qc_i32 z rfl)
            have v4 : ¬ Int32.toInt x0 = 2 := fun z => u4 (qc_i32 z rfl)
            have v5 : ¬ Int32.toInt x0 = 3 := fun z => u5 (qc_i32 z rfl)
            have v6 : ¬ Int32.toInt x0 = 4 := fun z => u6 (qc_i32 z rfl)
            refine And.imp_right (fun hx => qc_tabOut (qc_at qkX1_narrowed 1 rfl) (by omega) rfl hx) ?_
            obtain ⟨rfl, rfl, rfl, rfl, rfl⟩ := qc_some5 h
            exact ⟨qc_fm.rf _, qc_lload_n (qc_at qkX1_narrowed 29 rfl) rfl <| qc_lret (qc_at qkX1_narrowed 30 rfl) rfl (Nat.le_refl _) (Nat.le_refl _) (qc_eq.rf _ _ _)⟩
def fX1_setBits_b86 (w : qcW) (I : qTI) (L : qTL) (D : qTD) (R : qTR) (x3 : Int64) (x5 : Int32) (x6 : Int32) : qcO Bool :=
  (if x6 = (6 : Int32) then (qc_bd (fX8_floatOf w I L D R (Int64.toInt32 x3)) fun r4 I4 L4 D4 R4 => qc_gd (qc_inb x5 160) <| some (true, I4, L4, (qc_u D4 262 (Int32.toNatClampNeg x5) r4), R4)) else (qc_bd (fX8_doubleOf w I L D R x3) fun r2 I2 L2 D2 R2 => qc_gd (qc_inb x5 160) <| some (true, I2, L2, (qc_u D2 262 (Int32.toNatClampNeg x5) r2), R2)))
set_option maxRecDepth 100000 in
set_option maxHeartbeats 4000000 in
theorem tX1_setBits_b86 {w : qcW} {I : qTI} {L : qTL} {D : qTD} {R : qTR} {x3 : Int64} {x5 : Int32} {x6 : Int32} {r : Bool} {I' : qTI} {L' : qTL} {D' : qTD} {R' : qTR} (hn : qcNF ≤ w.1) (hR : qc_FR R) (h : fX1_setBits_b86 w I L D R x3 x5 x6 = some (r, I', L', D', R')) : qc_fm qcSX (I, L, D, R) (I', L', D', R') ∧ qc_X (qc_rm (4) 0 0) qmX1_setBits (qc_QM 0 0 (qc_eq (some (.int (qc_b r))) w (I', L', D', R'))) 0 0 w (86, [(0, .ref 257), (3, .long x3), (5, .int x5), (6, .int x6)], [], I, L, D, R) := by
  unfold fX1_setBits_b86 at h
  refine And.imp_right (fun hx => qc_aload_n (qc_at qkX1_setBits 49 rfl) rfl <| qc_gR (qc_at qkX1_setBits 50 rfl) hn rfl (qfr_257_4 hR) rfl <| qc_iload (qc_at qkX1_setBits 51 rfl) rfl <| qc_iload (qc_at qkX1_setBits 52 rfl) rfl <| qc_bipush (qc_at qkX1_setBits 53 rfl) <| hx) ?_
  refine qc_andN (qc_icmp_ne (qc_at qkX1_setBits 54 rfl)) (fun u1 => ?_) (fun u1 => ?_)
  · replace h := qc_jn u1 h
    refine And.imp_right (fun hx => qc_lload_n (qc_at qkX1_setBits 59 rfl) rfl <| hx) ?_
    obtain ⟨r2, I2, L2, D2, R2, e2, h⟩ := qc_bd_of h
    have c2 := (tX8_doubleOf hn hR e2)
    refine qd_cSv (qc_at qkX1_setBits 60 rfl) ql_1_75 qfX8_doubleOf c2 rfl rfl (Nat.le_of_ble_eq_true rfl) (qc_rml (by decide) (by decide)) ⟨Nat.zero_le _, Nat.zero_le _⟩ ?_
    obtain ⟨g3, h⟩ := qc_gd_of h
    refine qd_dast 160 (qc_at qkX1_setBits 61 rfl) hn rfl (qc_inb_in g3) rfl ?_
    obtain ⟨rfl, rfl, rfl, rfl, rfl⟩ := qc_some5 h
    exact ⟨qc_fm.rf _, qc_iconst (qc_at qkX1_setBits 62 rfl) <| qc_zret (qc_at qkX1_setBits 63 rfl) rfl (Or.inr rfl) (Nat.le_refl _) (Nat.le_refl _) ⟨rfl, rfl, rfl⟩⟩
  · replace h := qc_jp u1 h
    refine And.imp_right (fun hx => qc_lload_n (qc_at qkX1_setBits 55 rfl) rfl <| qc_l2i (qc_at qkX1_setBits 56 rfl) <| hx) ?_
    obtain ⟨r4, I4, L4, D4, R4, e4, h⟩ := qc_bd_of h
    have c4 := (tX8_floatOf hn hR e4)
    refine qd_cSv (qc_at qkX1_setBits 57 rfl) ql_1_71 qfX8_floatOf c4 rfl rfl (Nat.le_of_ble_eq_true rfl) (qc_rml (by decide) (by decide)) ⟨Nat.zero_le _, Nat.zero_le _⟩ ?_
    refine And.imp_right (fun hx => qc_goto (qc_at qkX1_setBits 58 rfl) <| hx) ?_
    obtain ⟨g5, h⟩ := qc_gd_of h
    refine qd_dast 160 (qc_at qkX1_setBits 61 rfl) hn rfl (qc_inb_in g5) rfl ?_
    obtain ⟨rfl, rfl, rfl, rfl, rfl⟩ := qc_some5 h
    exact ⟨qc_fm.rf _, qc_iconst (qc_at qkX1_setBits 62 rfl) <| qc_zret (qc_at qkX1_setBits 63 rfl) rfl (Or.inr rfl) (Nat.le_refl _) (Nat.le_refl _) ⟨rfl, rfl, rfl⟩⟩
def fX1_setBits (w : qcW) (I : qTI) (L : qTL) (D : qTD) (R : qTR) (x1 : Int32) (x2 : Int32) (x3 : Int64) : qcO Bool :=
  (qc_bd (fX1_laneOf w I L D R x1) fun r6 I6 L6 D6 R6 => qc_bd (fX1_cellFault w I6 L6 D6 R6 x1 r6 (Int32.toInt64 x2)) fun r7 I7 L7 D7 R7 => if r7 = 0 then (qc_gd (qc_inb x1 10) <| qc_bd (fX1_laneOf w I7 L7 D7 R7 x1) fun r10 I10 L10 D10 R10 => if (6 : Int32) ≤ r10 then (if r10 = (6 : Int32) then (qc_bd (fX8_isNoFloat w I10 L10 D10 R10 (Int64.toInt32 x3)) fun r15 I15 L15 D15 R15 => if r15 = true then (some (false, I15, L15, D15, R15)) else (fX1_setBits_b86 w I15 L15 D15 R15 x3 (((I7 258 (Int32.toNatClampNeg x1)) * (16 : Int32)) + x2) r10)) else (qc_bd (fX8_isNoDouble w I10 L10 D10 R10 x3) fun r13 I13 L13 D13 R13 => if r13 = true then (some (false, I13, L13, D13, R13)) else (fX1_setBits_b86 w I13 L13 D13 R13 x3 (((I7 258 (Int32.toNatClampNeg x1)) * (16 : Int32)) + x2) r10))) else (qc_bd (fX1_narrowed w I10 L10 D10 R10 r10 x3) fun r17 I17 L17 D17 R17 => qc_gd (qc_inb (((I7 258 (Int32.toNatClampNeg x1)) * (16 : Int32)) + x2) 160) <| some (true, I17, (qc_u L17 261 (Int32.toNatClampNeg (((I7 258 (Int32.toNatClampNeg x1)) * (16 : Int32)) + x2)) r17), D17, R17))) else (some (false, I7, L7, D7, R7)))
set_option maxRecDepth 100000 in
set_option maxHeartbeats 4000000 in
theorem tX1_setBits {w : qcW} {I : qTI} {L : qTL} {D : qTD} {R : qTR} {x1 : Int32} {x2 : Int32} {x3 : Int64} {r : Bool} {I' : qTI} {L' : qTL} {D' : qTD} {R' : qTR} (hn : qcNF ≤ w.1) (hR : qc_FR R) (h : fX1_setBits w I L D R x1 x2 x3 = some (r, I', L', D', R')) : qc_fm qcSX (I, L, D, R) (I', L', D', R') ∧ qc_V (4) 0 0 qmX1_setBits [.ref 257, .int x1, .int x2, .long x3] w (I, L, D, R) (qc_eq (some (.int (qc_b r))) w (I', L', D', R')) := by
  unfold fX1_setBits at h
  refine And.imp_right (fun hx => qc_V.of rfl rfl (Nat.le_of_ble_eq_true rfl) (lv := [(0, .ref 257), (1, .int x1), (2, .int x2), (3, .long x3)]) rfl hx) ?_
  refine And.imp_right (fun hx => qc_aload_n (qc_at qkX1_setBits 0 rfl) rfl <| qc_iload_n (qc_at qkX1_setBits 1 rfl) rfl <| qc_aload_n (qc_at qkX1_setBits 2 rfl) rfl <| qc_iload_n (qc_at qkX1_setBits 3 rfl) rfl <| hx) ?_
  obtain ⟨r6, I6, L6, D6, R6, e6, h⟩ := qc_bd_of h
  have c6 := (tX1_laneOf hn hR e6)
  refine qd_cVv (ci := 1) (a0 := 257) (qc_at qkX1_setBits 4 rfl) ql_1_50 qfX1_laneOf (qc_kf hn rfl) rfl c6 rfl rfl (Nat.le_of_ble_eq_true rfl) (qc_rml (by decide) (by decide)) ⟨Nat.zero_le _, Nat.zero_le _⟩ ?_
  refine And.imp_right (fun hx => qc_iload_n (qc_at qkX1_setBits 5 rfl) rfl <| qc_i2l (qc_at qkX1_setBits 6 rfl) <| hx) ?_
  obtain ⟨r7, I7, L7, D7, R7, e7, h⟩ := qc_bd_of h
  have c7 := (tX1_cellFault hn (c6.1.1 hR) e7)
  refine qd_cVv (ci := 1) (a0 := 257) (qc_at qkX1_setBits 7 rfl) ql_1_54 qfX1_cellFault (qc_kf hn rfl) rfl c7 rfl rfl (Nat.le_of_ble_eq_true rfl) (qc_rml (by decide) (by decide)) ⟨Nat.zero_le _, Nat.zero_le _⟩ ?_
  refine qc_andC (qc_if_eq (qc_at qkX1_setBits 8 rfl)) (fun u8 => ?_) (fun u8 => ?_)
  · replace h := qc_jp u8 h
    refine And.imp_right (fun hx => qc_aload_n (qc_at qkX1_setBits 11 rfl) rfl <| qc_gR (qc_at qkX1_setBits 12 rfl) hn rfl (qfr_257_0 (c7.1.1 (c6.1.1 hR))) rfl <| qc_iload_n (qc_at qkX1_setBits 13 rfl) rfl <| hx) ?_
    obtain ⟨g9, h⟩ := qc_gd_of h
    refine And.imp_right (fun hx => qc_iald 10 (qc_at qkX1_setBits 14 rfl) hn rfl (qc_inb_in g9) <| qc_bipush (qc_at qkX1_setBits 15 rfl) <| qc_imul (qc_at qkX1_setBits 16 rfl) <| qc_iload_n (qc_at qkX1_setBits 17 rfl) rfl <| qc_iadd (qc_at qkX1_setBits 18 rfl) <| qc_istore (lv' := [(5, _), (0, _), (1, _), (2, _), (3, _)]) (qc_at qkX1_setBits 19 rfl) rfl rfl <| qc_aload_n (qc_at qkX1_setBits 20 rfl) rfl <| qc_iload_n (qc_at qkX1_setBits 21 rfl) rfl <| hx) ?_
    obtain ⟨r10, I10, L10, D10, R10, e10, h⟩ := qc_bd_of h
    have c10 := (tX1_laneOf hn (c7.1.1 (c6.1.1 hR)) e10)
    refine qd_cVv (ci := 1) (a0 := 257) (qc_at qkX1_setBits 22 rfl) ql_1_50 qfX1_laneOf (qc_kf hn rfl) rfl c10 rfl rfl (Nat.le_of_ble_eq_true rfl) (qc_rml (by decide) (by decide)) ⟨Nat.zero_le _, Nat.zero_le _⟩ ?_
    refine And.imp_right (fun hx => qc_istore (lv' := [(6, _), (5, _), (0, _), (1, _), (2, _), (3, _)]) (qc_at qkX1_setBits 23 rfl) rfl rfl <| qc_iload (qc_at qkX1_setBits 24 rfl) rfl <| qc_bipush (qc_at qkX1_setBits 25 rfl) <| hx) ?_
    refine qc_andC (qc_icmp_ge (qc_at qkX1_setBits 26 rfl)) (fun u11 => ?_) (fun u11 => ?_)
    · replace h := qc_jp u11 h
      refine And.imp_right (fun hx => qc_iload (qc_at qkX1_setBits 36 rfl) rfl <| qc_bipush (qc_at qkX1_setBits 37 rfl) <| hx) ?_
      refine qc_andN (qc_icmp_ne (qc_at qkX1_setBits 38 rfl)) (fun u12 => ?_) (fun u12 => ?_)
      · replace h := qc_jn u12 h
        refine And.imp_right (fun hx => qc_lload_n (qc_at qkX1_setBits 44 rfl) rfl <| hx) ?_
        obtain ⟨r13, I13, L13, D13, R13, e13, h⟩ := qc_bd_of h
        have c13 := (tX8_isNoDouble hn (c10.1.1 (c7.1.1 (c6.1.1 hR))) e13)
        refine qd_cSv (qc_at qkX1_setBits 45 rfl) ql_1_67 qfX8_isNoDouble c13 rfl rfl (Nat.le_of_ble_eq_true rfl) (qc_rml (by decide) (by decide)) ⟨Nat.zero_le _, Nat.zero_le _⟩ ?_
        refine qc_andB (qc_ifB_eq (qc_at qkX1_setBits 46 rfl)) (fun u14 => ?_) (fun u14 => ?_)
        · replace h := qc_jf u14 h
          exact And.imp_right (fun hx => qc_sub [2, 5, 1, 0] rfl hx) (tX1_setBits_b86 hn (c13.1.1 (c10.1.1 (c7.1.1 (c6.1.1 hR)))) h)
        · replace h := qc_jt u14 h
          obtain ⟨rfl, rfl, rfl, rfl, rfl⟩ := qc_some5 h
          exact ⟨qc_fm.rf _, qc_iconst (qc_at qkX1_setBits 47 rfl) <| qc_zret (qc_at qkX1_setBits 48 rfl) rfl (Or.inl rfl) (Nat.le_refl _) (Nat.le_refl _) ⟨rfl, rfl, rfl⟩⟩
      · replace h := qc_jp u12 h
        refine And.imp_right (fun hx => qc_lload_n (qc_at qkX1_setBits 39 rfl) rfl <| qc_l2i (qc_at qkX1_setBits 40 rfl) <| hx) ?_
        obtain ⟨r15, I15, L15, D15, R15, e15, h⟩ := qc_bd_of h
        have c15 := (tX8_isNoFloat hn (c10.1.1 (c7.1.1 (c6.1.1 hR))) e15)
        refine qd_cSv (qc_at qkX1_setBits 41 rfl) ql_1_62 qfX8_isNoFloat c15 rfl rfl (Nat.le_of_ble_eq_true rfl) (qc_rml (by decide) (by decide)) ⟨Nat.zero_le _, Nat.zero_le _⟩ ?_
        refine qc_andB (qc_ifB_eq (qc_at qkX1_setBits 42 rfl)) (fun u16 => ?_) (fun u16 => ?_)
        · replace h := qc_jf u16 h
          exact And.imp_right (fun hx => qc_sub [2, 5, 1, 0] rfl hx) (tX1_setBits_b86 hn (c15.1.1 (c10.1.1 (c7.1.1 (c6.1.1 hR)))) h)
        · replace h := qc_jt u16 h
          obtain ⟨rfl, rfl, rfl, rfl, rfl⟩ := qc_some5 h
          exact ⟨qc_fm.rf _, qc_goto (qc_at qkX1_setBits 43 rfl) <| qc_iconst (qc_at qkX1_setBits 47 rfl) <| qc_zret (qc_at qkX1_setBits 48 rfl) rfl (Or.inl rfl) (Nat.le_refl _) (Nat.le_refl _) ⟨rfl, rfl, rfl⟩⟩
    · replace h := qc_jn u11 h
      refine And.imp_right (fun hx => qc_aload_n (qc_at qkX1_setBits 27 rfl) rfl <| qc_gR (qc_at qkX1_setBits 28 rfl) hn rfl (qfr_257_3 (c10.1.1 (c7.1.1 (c6.1.1 hR)))) rfl <| qc_iload (qc_at qkX1_setBits 29 rfl) rfl <| qc_iload (qc_at qkX1_setBits 30 rfl) rfl <| qc_lload_n (qc_at qkX1_setBits 31 rfl) rfl <| hx) ?_
      obtain ⟨r17, I17, L17, D17, R17, e17, h⟩ := qc_bd_of h
      have c17 := (tX1_narrowed hn (c10.1.1 (c7.1.1 (c6.1.1 hR))) e17)
      refine qd_cSv (qc_at qkX1_setBits 32 rfl) ql_1_58 qfX1_narrowed c17 rfl rfl (Nat.le_of_ble_eq_true rfl) (qc_rml (by decide) (by decide)) ⟨Nat.zero_le _, Nat.zero_le _⟩ ?_
      obtain ⟨g18, h⟩ := qc_gd_of h
      refine qd_last 160 (qc_at qkX1_setBits 33 rfl) hn rfl (qc_inb_in g18) rfl ?_
      obtain ⟨rfl, rfl, rfl, rfl, rfl⟩ := qc_some5 h
      exact ⟨qc_fm.rf _, qc_iconst (qc_at qkX1_setBits 34 rfl) <| qc_zret (qc_at qkX1_setBits 35 rfl) rfl (Or.inr rfl) (Nat.le_refl _) (Nat.le_refl _) ⟨rfl, rfl, rfl⟩⟩
  · replace h := qc_jn u8 h
    obtain ⟨rfl, rfl, rfl, rfl, rfl⟩ := qc_some5 h
    exact ⟨qc_fm.rf _, qc_iconst (qc_at qkX1_setBits 9 rfl) <| qc_zret (qc_at qkX1_setBits 10 rfl) rfl (Or.inl rfl) (Nat.le_refl _) (Nat.le_refl _) ⟨rfl, rfl, rfl⟩⟩
def fX1_bitsOf (w : qcW) (I : qTI) (L : qTL) (D : qTD) (R : qTR) (x1 : Int32) (x2 : Int32) : qcO Int64 :=
  (qc_gd (qc_inb x1 10) <| qc_bd (fX1_laneOf w I L D R x1) fun r2 I2 L2 D2 R2 => if (6 : Int32) ≤ r2 then (if r2 = (6 : Int32) then (qc_gd (qc_inb (((I 258 (Int32.toNatClampNeg x1)) * (16 : Int32)) + x2) 160) <| qc_bd (fX8_bitsOfFloat w I2 L2 D2 R2 (D2 262 (Int32.toNatClampNeg (((I 258 (Int32.toNatClampNeg x1)) * (16 : Int32)) + x2)))) fun r8 I8 L8 D8 R8 => some (r8, I8, L8, D8, R8)) else (qc_gd (qc_inb (((I 258 (Int32.toNatClampNeg x1)) * (16 : Int32)) + x2) 160) <| qc_bd (fX8_bitsOfDouble w I2 L2 D2 R2 (D2 262 (Int32.toNatClampNeg (((I 258 (Int32.toNatClampNeg x1)) * (16 : Int32)) + x2)))) fun r6 I6 L6 D6 R6 => some (r6, I6, L6, D6, R6))) else (qc_gd (qc_inb (((I 258 (Int32.toNatClampNeg x1)) * (16 : Int32)) + x2) 160) <| some ((L2 261 (Int32.toNatClampNeg (((I 258 (Int32.toNatClampNeg x1)) * (16 : Int32)) + x2))), I2, L2, D2, R2)))
set_option maxRecDepth 100000 in
set_option maxHeartbeats 4000000 in
theorem tX1_bitsOf {w : qcW} {I : qTI} {L : qTL} {D : qTD} {R : qTR} {x1 : Int32} {x2 : Int32} {r : Int64} {I' : qTI} {L' : qTL} {D' : qTD} {R' : qTR} (hn : qcNF ≤ w.1) (hR : qc_FR R) (h : fX1_bitsOf w I L D R x1 x2 = some (r, I', L', D', R')) : qc_fm qcSX (I, L, D, R) (I', L', D', R') ∧ qc_V (4) 0 0 qmX1_bitsOf [.ref 257, .int x1, .int x2] w (I, L, D, R) (qc_eq (some (.long r)) w (I', L', D', R')) := by
  unfold fX1_bitsOf at h
  refine And.imp_right (fun hx => qc_V.of rfl rfl (Nat.le_of_ble_eq_true rfl) (lv := [(0, .ref 257), (1, .int x1), (2, .int x2)]) rfl hx) ?_
  refine And.imp_right (fun hx => qc_aload_n (qc_at qkX1_bitsOf 0 rfl) rfl <| qc_gR (qc_at qkX1_bitsOf 1 rfl) hn rfl (qfr_257_0 hR) rfl <| qc_iload_n (qc_at qkX1_bitsOf 2 rfl) rfl <| hx) ?_
  obtain ⟨g1, h⟩ := qc_gd_of h
  refine And.imp_right (fun hx => qc_iald 10 (qc_at qkX1_bitsOf 3 rfl) hn rfl (qc_inb_in g1) <| qc_bipush (qc_at qkX1_bitsOf 4 rfl) <| qc_imul (qc_at qkX1_bitsOf 5 rfl) <| qc_iload_n (qc_at qkX1_bitsOf 6 rfl) rfl <| qc_iadd (qc_at qkX1_bitsOf 7 rfl) <| qc_istore_n (lv' := [(3, _), (0, _), (1, _), (2, _)]) (qc_at qkX1_bitsOf 8 rfl) rfl rfl <| qc_aload_n (qc_at qkX1_bitsOf 9 rfl) rfl <| qc_iload_n (qc_at qkX1_bitsOf 10 rfl) rfl <| hx) ?_
  obtain ⟨r2, I2, L2, D2, R2, e2, h⟩ := qc_bd_of h
  have c2 := (tX1_laneOf hn hR e2)
  refine qd_cVv (ci := 1) (a0 := 257) (qc_at qkX1_bitsOf 11 rfl) ql_1_50 qfX1_laneOf (qc_kf hn rfl) rfl c2 rfl rfl (Nat.le_of_ble_eq_true rfl) (qc_rml (by decide) (by decide)) ⟨Nat.zero_le _, Nat.zero_le _⟩ ?_
  refine And.imp_right (fun hx => qc_istore (lv' := [(4, _), (3, _), (0, _), (1, _), (2, _)]) (qc_at qkX1_bitsOf 12 rfl) rfl rfl <| qc_iload (qc_at qkX1_bitsOf 13 rfl) rfl <| qc_bipush (qc_at qkX1_bitsOf 14 rfl) <| hx) ?_
  refine qc_andC (qc_icmp_ge (qc_at qkX1_bitsOf 15 rfl)) (fun u3 => ?_) (fun u3 => ?_)
  · replace h := qc_jp u3 h
    refine And.imp_right (fun hx => qc_iload (qc_at qkX1_bitsOf 21 rfl) rfl <| qc_bipush (qc_at qkX1_bitsOf 22 rfl) <| hx) ?_
    refine qc_andN (qc_icmp_ne (qc_at qkX1_bitsOf 23 rfl)) (fun u4 => ?_) (fun u4 => ?_)
    · replace h := qc_jn u4 h
      refine And.imp_right (fun hx => qc_aload_n (qc_at qkX1_bitsOf 30 rfl) rfl <| qc_gR (qc_at qkX1_bitsOf 31 rfl) hn rfl (qfr_257_4 (c2.1.1 hR)) rfl <| qc_iload_n (qc_at qkX1_bitsOf 32 rfl) rfl <| hx) ?_
      obtain ⟨g5, h⟩ := qc_gd_of h
      refine And.imp_right (fun hx => qc_dald 160 (qc_at qkX1_bitsOf 33 rfl) hn rfl (qc_inb_in g5) <| hx) ?_
      obtain ⟨r6, I6, L6, D6, R6, e6, h⟩ := qc_bd_of h
      have c6 := (tX8_bitsOfDouble hn (c2.1.1 hR) e6)
      refine qd_cSv (qc_at qkX1_bitsOf 34 rfl) ql_1_83 qfX8_bitsOfDouble c6 rfl rfl (Nat.le_of_ble_eq_true rfl) (qc_rml (by decide) (by decide)) ⟨Nat.zero_le _, Nat.zero_le _⟩ ?_
      obtain ⟨rfl, rfl, rfl, rfl, rfl⟩ := qc_some5 h
      exact ⟨qc_fm.rf _, qc_lret (qc_at qkX1_bitsOf 35 rfl) rfl (Nat.le_refl _) (Nat.le_refl _) (qc_eq.rf _ _ _)⟩
    · replace h := qc_jp u4 h
      refine And.imp_right (fun hx => qc_aload_n (qc_at qkX1_bitsOf 24 rfl) rfl <| qc_gR (qc_at qkX1_bitsOf 25 rfl) hn rfl (qfr_257_4 (c2.1.1 hR)) rfl <| qc_iload_n (qc_at qkX1_bitsOf 26 rfl) rfl <| hx) ?_
      obtain ⟨g7, h⟩ := qc_gd_of h
      refine And.imp_right (fun hx => qc_dald 160 (qc_at qkX1_bitsOf 27 rfl) hn rfl (qc_inb_in g7) <| hx) ?_
      obtain ⟨r8, I8, L8, D8, R8, e8, h⟩ := qc_bd_of h
      have c8 := (tX8_bitsOfFloat hn (c2.1.1 hR) e8)
      refine qd_cSv (qc_at qkX1_bitsOf 28 rfl) ql_1_79 qfX8_bitsOfFloat c8 rfl rfl (Nat.le_of_ble_eq_true rfl) (qc_rml (by decide) (by decide)) ⟨Nat.zero_le _, Nat.zero_le _⟩ ?_
      obtain ⟨rfl, rfl, rfl, rfl, rfl⟩ := qc_some5 h
      exact ⟨qc_fm.rf _, qc_goto (qc_at qkX1_bitsOf 29 rfl) <| qc_lret (qc_at qkX1_bitsOf 35 rfl) rfl (Nat.le_refl _) (Nat.le_refl _) (qc_eq.rf _ _ _)⟩
  · replace h := qc_jn u3 h
    refine And.imp_right (fun hx => qc_aload_n (qc_at qkX1_bitsOf 16 rfl) rfl <| qc_gR (qc_at qkX1_bitsOf 17 rfl) hn rfl (qfr_257_3 (c2.1.1 hR)) rfl <| qc_iload_n (qc_at qkX1_bitsOf 18 rfl) rfl <| hx) ?_
    obtain ⟨g9, h⟩ := qc_gd_of h
    obtain ⟨rfl, rfl, rfl, rfl, rfl⟩ := qc_some5 h
    exact ⟨qc_fm.rf _, qc_lald 160 (qc_at qkX1_bitsOf 19 rfl) hn rfl (qc_inb_in g9) <| qc_lret (qc_at qkX1_bitsOf 20 rfl) rfl (Nat.le_refl _) (Nat.le_refl _) (qc_eq.rf _ _ _)⟩
def fX1_wholeAt (w : qcW) (I : qTI) (L : qTL) (D : qTD) (R : qTR) (x1 : Int32) (x2 : Int32) : qcO Int64 :=
  (qc_gd (qc_inb x1 10) <| qc_gd (qc_inb (((I 258 (Int32.toNatClampNeg x1)) * (16 : Int32)) + x2) 160) <| some ((L 261 (Int32.toNatClampNeg (((I 258 (Int32.toNatClampNeg x1)) * (16 : Int32)) + x2))), I, L, D, R))
set_option maxRecDepth 100000 in
set_option maxHeartbeats 4000000 in
theorem tX1_wholeAt {w : qcW} {I : qTI} {L : qTL} {D : qTD} {R : qTR} {x1 : Int32} {x2 : Int32} {r : Int64} {I' : qTI} {L' : qTL} {D' : qTD} {R' : qTR} (hn : qcNF ≤ w.1) (hR : qc_FR R) (h : fX1_wholeAt w I L D R x1 x2 = some (r, I', L', D', R')) : qc_fm qcSX (I, L, D, R) (I', L', D', R') ∧ qc_V (0) 0 0 qmX1_wholeAt [.ref 257, .int x1, .int x2] w (I, L, D, R) (qc_eq (some (.long r)) w (I', L', D', R')) := by
  unfold fX1_wholeAt at h
  refine And.imp_right (fun hx => qc_V.of rfl rfl (Nat.le_of_ble_eq_true rfl) (lv := [(0, .ref 257), (1, .int x1), (2, .int x2)]) rfl hx) ?_
  refine And.imp_right (fun hx => qc_aload_n (qc_at qkX1_wholeAt 0 rfl) rfl <| qc_gR (qc_at qkX1_wholeAt 1 rfl) hn rfl (qfr_257_3 hR) rfl <| qc_aload_n (qc_at qkX1_wholeAt 2 rfl) rfl <| qc_gR (qc_at qkX1_wholeAt 3 rfl) hn rfl (qfr_257_0 hR) rfl <| qc_iload_n (qc_at qkX1_wholeAt 4 rfl) rfl <| hx) ?_
  obtain ⟨g1, h⟩ := qc_gd_of h
  refine And.imp_right (fun hx => qc_iald 10 (qc_at qkX1_wholeAt 5 rfl) hn rfl (qc_inb_in g1) <| qc_bipush (qc_at qkX1_wholeAt 6 rfl) <| qc_imul (qc_at qkX1_wholeAt 7 rfl) <| qc_iload_n (qc_at qkX1_wholeAt 8 rfl) rfl <| qc_iadd (qc_at qkX1_wholeAt 9 rfl) <| hx) ?_
  obtain ⟨g2, h⟩ := qc_gd_of h
  obtain ⟨rfl, rfl, rfl, rfl, rfl⟩ := qc_some5 h
  exact ⟨qc_fm.rf _, qc_lald 160 (qc_at qkX1_wholeAt 10 rfl) hn rfl (qc_inb_in g2) <| qc_lret (qc_at qkX1_wholeAt 11 rfl) rfl (Nat.le_refl _) (Nat.le_refl _) (qc_eq.rf _ _ _)⟩
def fX1_realAt (w : qcW) (I : qTI) (L : qTL) (D : qTD) (R : qTR) (x1 : Int32) (x2 : Int32) : qcO UInt64 :=
  (qc_gd (qc_inb x1 10) <| qc_gd (qc_inb (((I 258 (Int32.toNatClampNeg x1)) * (16 : Int32)) + x2) 160) <| some ((D 262 (Int32.toNatClampNeg (((I 258 (Int32.toNatClampNeg x1)) * (16 : Int32)) + x2))), I, L, D, R))
set_option maxRecDepth 100000 in
set_option maxHeartbeats 4000000 in
theorem tX1_realAt {w : qcW} {I : qTI} {L : qTL} {D : qTD} {R : qTR} {x1 : Int32} {x2 : Int32} {r : UInt64} {I' : qTI} {L' : qTL} {D' : qTD} {R' : qTR} (hn : qcNF ≤ w.1) (hR : qc_FR R) (h : fX1_realAt w I L D R x1 x2 = some (r, I', L', D', R')) : qc_fm qcSX (I, L, D, R) (I', L', D', R') ∧ qc_V (0) 0 0 qmX1_realAt [.ref 257, .int x1, .int x2] w (I, L, D, R) (qc_eq (some (.double r)) w (I', L', D', R')) := by
  unfold fX1_realAt at h
  refine And.imp_right (fun hx => qc_V.of rfl rfl (Nat.le_of_ble_eq_true rfl) (lv := [(0, .ref 257), (1, .int x1), (2, .int x2)]) rfl hx) ?_
  refine And.imp_right (fun hx => qc_aload_n (qc_at qkX1_realAt 0 rfl) rfl <| qc_gR (qc_at qkX1_realAt 1 rfl) hn rfl (qfr_257_4 hR) rfl <| qc_aload_n (qc_at qkX1_realAt 2 rfl) rfl <| qc_gR (qc_at qkX1_realAt 3 rfl) hn rfl (qfr_257_0 hR) rfl <| qc_iload_n (qc_at qkX1_realAt 4 rfl) rfl <| hx) ?_
  obtain ⟨g1, h⟩ := qc_gd_of h
  refine And.imp_right (fun hx => qc_iald 10 (qc_at qkX1_realAt 5 rfl) hn rfl (qc_inb_in g1) <| qc_bipush (qc_at qkX1_realAt 6 rfl) <| qc_imul (qc_at qkX1_realAt 7 rfl) <| qc_iload_n (qc_at qkX1_realAt 8 rfl) rfl <| qc_iadd (qc_at qkX1_realAt 9 rfl) <| hx) ?_
  obtain ⟨g2, h⟩ := qc_gd_of h
  obtain ⟨rfl, rfl, rfl, rfl, rfl⟩ := qc_some5 h
  exact ⟨qc_fm.rf _, qc_dald 160 (qc_at qkX1_realAt 10 rfl) hn rfl (qc_inb_in g2) <| qc_dret (qc_at qkX1_realAt 11 rfl) rfl (Nat.le_refl _) (Nat.le_refl _) (qc_eq.rf _ _ _)⟩
def fX1_setWhole (w : qcW) (I : qTI) (L : qTL) (D : qTD) (R : qTR) (x1 : Int32) (x2 : Int32) (x3 : Int64) : qcO Unit :=
  (qc_gd (qc_inb x1 10) <| qc_gd (qc_inb (((I 258 (Int32.toNatClampNeg x1)) * (16 : Int32)) + x2) 160) <| some ((), I, (qc_u L 261 (Int32.toNatClampNeg (((I 258 (Int32.toNatClampNeg x1)) * (16 : Int32)) + x2)) x3), D, R))
set_option maxRecDepth 100000 in
set_option maxHeartbeats 4000000 in
theorem tX1_setWhole {w : qcW} {I : qTI} {L : qTL} {D : qTD} {R : qTR} {x1 : Int32} {x2 : Int32} {x3 : Int64} {r : Unit} {I' : qTI} {L' : qTL} {D' : qTD} {R' : qTR} (hn : qcNF ≤ w.1) (hR : qc_FR R) (h : fX1_setWhole w I L D R x1 x2 x3 = some (r, I', L', D', R')) : qc_fm qcSX (I, L, D, R) (I', L', D', R') ∧ qc_V (0) 0 0 qmX1_setWhole [.ref 257, .int x1, .int x2, .long x3] w (I, L, D, R) (qc_eq none w (I', L', D', R')) := by
  unfold fX1_setWhole at h
  refine And.imp_right (fun hx => qc_V.of rfl rfl (Nat.le_of_ble_eq_true rfl) (lv := [(0, .ref 257), (1, .int x1), (2, .int x2), (3, .long x3)]) rfl hx) ?_
  refine And.imp_right (fun hx => qc_aload_n (qc_at qkX1_setWhole 0 rfl) rfl <| qc_gR (qc_at qkX1_setWhole 1 rfl) hn rfl (qfr_257_3 hR) rfl <| qc_aload_n (qc_at qkX1_setWhole 2 rfl) rfl <| qc_gR (qc_at qkX1_setWhole 3 rfl) hn rfl (qfr_257_0 hR) rfl <| qc_iload_n (qc_at qkX1_setWhole 4 rfl) rfl <| hx) ?_
  obtain ⟨g1, h⟩ := qc_gd_of h
  refine And.imp_right (fun hx => qc_iald 10 (qc_at qkX1_setWhole 5 rfl) hn rfl (qc_inb_in g1) <| qc_bipush (qc_at qkX1_setWhole 6 rfl) <| qc_imul (qc_at qkX1_setWhole 7 rfl) <| qc_iload_n (qc_at qkX1_setWhole 8 rfl) rfl <| qc_iadd (qc_at qkX1_setWhole 9 rfl) <| qc_lload_n (qc_at qkX1_setWhole 10 rfl) rfl <| hx) ?_
  obtain ⟨g2, h⟩ := qc_gd_of h
  refine qd_last 160 (qc_at qkX1_setWhole 11 rfl) hn rfl (qc_inb_in g2) rfl ?_
  obtain ⟨rfl, rfl, rfl, rfl, rfl⟩ := qc_some5 h
  exact ⟨qc_fm.rf _, qc_vret (qc_at qkX1_setWhole 12 rfl) rfl (Nat.le_refl _) (Nat.le_refl _) (qc_eq.rf _ _ _)⟩
def fX1_setReal (w : qcW) (I : qTI) (L : qTL) (D : qTD) (R : qTR) (x1 : Int32) (x2 : Int32) (x3 : UInt64) : qcO Unit :=
  (qc_gd (qc_inb x1 10) <| qc_gd (qc_inb (((I 258 (Int32.toNatClampNeg x1)) * (16 : Int32)) + x2) 160) <| some ((), I, L, (qc_u D 262 (Int32.toNatClampNeg (((I 258 (Int32.toNatClampNeg x1)) * (16 : Int32)) + x2)) x3), R))
set_option maxRecDepth 100000 in
set_option maxHeartbeats 4000000 in
theorem tX1_setReal {w : qcW} {I : qTI} {L : qTL} {D : qTD} {R : qTR} {x1 : Int32} {x2 : Int32} {x3 : UInt64} {r : Unit} {I' : qTI} {L' : qTL} {D' : qTD} {R' : qTR} (hn : qcNF ≤ w.1) (hR : qc_FR R) (h : fX1_setReal w I L D R x1 x2 x3 = some (r, I', L', D', R')) : qc_fm qcSX (I, L, D, R) (I', L', D', R') ∧ qc_V (0) 0 0 qmX1_setReal [.ref 257, .int x1, .int x2, .double x3] w (I, L, D, R) (qc_eq none w (I', L', D', R')) := by
  unfold fX1_setReal at h
  refine And.imp_right (fun hx => qc_V.of rfl rfl (Nat.le_of_ble_eq_true rfl) (lv := [(0, .ref 257), (1, .int x1), (2, .int x2), (3, .double x3)]) rfl hx) ?_
  refine And.imp_right (fun hx => qc_aload_n (qc_at qkX1_setReal 0 rfl) rfl <| qc_gR (qc_at qkX1_setReal 1 rfl) hn rfl (qfr_257_4 hR) rfl <| qc_aload_n (qc_at qkX1_setReal 2 rfl) rfl <| qc_gR (qc_at qkX1_setReal 3 rfl) hn rfl (qfr_257_0 hR) rfl <| qc_iload_n (qc_at qkX1_setReal 4 rfl) rfl <| hx) ?_
  obtain ⟨g1, h⟩ := qc_gd_of h
  refine And.imp_right (fun hx => qc_iald 10 (qc_at qkX1_setReal 5 rfl) hn rfl (qc_inb_in g1) <| qc_bipush (qc_at qkX1_setReal 6 rfl) <| qc_imul (qc_at qkX1_setReal 7 rfl) <| qc_iload_n (qc_at qkX1_setReal 8 rfl) rfl <| qc_iadd (qc_at qkX1_setReal 9 rfl) <| qc_dload_n (qc_at qkX1_setReal 10 rfl) rfl <| hx) ?_
  obtain ⟨g2, h⟩ := qc_gd_of h
  refine qd_dast 160 (qc_at qkX1_setReal 11 rfl) hn rfl (qc_inb_in g2) rfl ?_
  obtain ⟨rfl, rfl, rfl, rfl, rfl⟩ := qc_some5 h
  exact ⟨qc_fm.rf _, qc_vret (qc_at qkX1_setReal 12 rfl) rfl (Nat.le_refl _) (Nat.le_refl _) (qc_eq.rf _ _ _)⟩
def fX1_keep_b18 (w : qcW) (I : qTI) (L : qTL) (D : qTD) (R : qTR) (s0 : Int32) : qcO Unit :=
  (if ((qc_u I 257 7 s0) 257 7) = (-1 : Int32) then (some ((), (qc_u I 257 7 s0), L, D, R)) else (qc_gd (qj_cok (((qc_u I 257 7 s0) 257 7) * (16 : Int32)) (0 : Int32) (16 : Int32) 160 16) <| qc_gd (qj_cok (((qc_u I 257 7 s0) 257 7) * (16 : Int32)) (0 : Int32) (16 : Int32) 160 16) <| some ((), (qc_u I 257 7 s0), (qj_cp L 261 263 (Int32.toNatClampNeg (((qc_u I 257 7 s0) 257 7) * (16 : Int32))) (Int32.toNatClampNeg (0 : Int32)) (Int32.toNatClampNeg (16 : Int32))), (qj_cp D 262 264 (Int32.toNatClampNeg (((qc_u I 257 7 s0) 257 7) * (16 : Int32))) (Int32.toNatClampNeg (0 : Int32)) (Int32.toNatClampNeg (16 : Int32))), R)))
set_option maxRecDepth 100000 in
set_option maxHeartbeats 4000000 in
theorem tX1_keep_b18 {w : qcW} {I : qTI} {L : qTL} {D : qTD} {R : qTR} {s0 : Int32} {r : Unit} {I' : qTI} {L' : qTL} {D' : qTD} {R' : qTR} (hn : qcNF ≤ w.1) (hR : qc_FR R) (h : fX1_keep_b18 w I L D R s0 = some (r, I', L', D', R')) : qc_fm qcSX (I, L, D, R) (I', L', D', R') ∧ qc_X (qc_rm (1) 0 0) qmX1_keep (qc_QM 0 0 (qc_eq none w (I', L', D', R'))) 0 0 w (18, [(0, .ref 257)], [.int s0, .ref 257], I, L, D, R) := by
  unfold fX1_keep_b18 at h
  refine qd_pI (qc_at qkX1_keep 10 rfl) hn rfl rfl ?_
  refine And.imp_right (fun hx => qc_aload_n (qc_at qkX1_keep 11 rfl) rfl <| qc_gI (qc_at qkX1_keep 12 rfl) hn rfl <| qc_iconst (qc_at qkX1_keep 13 rfl) <| hx) ?_
  refine qc_andC (qc_icmp_eq (qc_at qkX1_keep 14 rfl)) (fun u1 => ?_) (fun u1 => ?_)
  · replace h := qc_jp u1 h
    obtain ⟨rfl, rfl, rfl, rfl, rfl⟩ := qc_some5 h
    exact ⟨qc_fm.rf _, qc_vret (qc_at qkX1_keep 37 rfl) rfl (Nat.le_refl _) (Nat.le_refl _) (qc_eq.rf _ _ _)⟩
  · replace h := qc_jn u1 h
    refine And.imp_right (fun hx => qc_aload_n (qc_at qkX1_keep 15 rfl) rfl <| qc_gR (qc_at qkX1_keep 16 rfl) hn rfl (qfr_257_3 hR) rfl <| qc_aload_n (qc_at qkX1_keep 17 rfl) rfl <| qc_gI (qc_at qkX1_keep 18 rfl) hn rfl <| qc_bipush (qc_at qkX1_keep 19 rfl) <| qc_imul (qc_at qkX1_keep 20 rfl) <| qc_aload_n (qc_at qkX1_keep 21 rfl) rfl <| qc_gR (qc_at qkX1_keep 22 rfl) hn rfl (qfr_257_5 hR) rfl <| qc_iconst (qc_at qkX1_keep 23 rfl) <| qc_bipush (qc_at qkX1_keep 24 rfl) <| hx) ?_
    obtain ⟨g2, h⟩ := qc_gd_of h
    refine qd_cpl (qc_at qkX1_keep 25 rfl) qj_acL1_86 (qc_kaf hn rfl) (qc_kaf hn rfl) g2 (Nat.le_of_ble_eq_true rfl) ⟨by decide, by decide⟩ rfl ?_
    refine And.imp_right (fun hx => qc_aload_n (qc_at qkX1_keep 26 rfl) rfl <| qc_gR (qc_at qkX1_keep 27 rfl) hn rfl (qfr_257_4 hR) rfl <| qc_aload_n (qc_at qkX1_keep 28 rfl) rfl <| qc_gI (qc_at qkX1_keep 29 rfl) hn rfl <| qc_bipush (qc_at qkX1_keep 30 rfl) <| qc_imul (qc_at qkX1_keep 31 rfl) <| qc_aload_n (qc_at qkX1_keep 32 rfl) rfl <| qc_gR (qc_at qkX1_keep 33 rfl) hn rfl (qfr_257_6 hR) rfl <| qc_iconst (qc_at qkX1_keep 34 rfl) <| qc_bipush (qc_at qkX1_keep 35 rfl) <| hx) ?_
    obtain ⟨g3, h⟩ := qc_gd_of h
    refine qd_cpd (qc_at qkX1_keep 36 rfl) qj_acL1_86 (qc_kaf hn rfl) (qc_kaf hn rfl) g3 (Nat.le_of_ble_eq_true rfl) ⟨by decide, by decide⟩ rfl ?_
    obtain ⟨rfl, rfl, rfl, rfl, rfl⟩ := qc_some5 h
    exact ⟨qc_fm.rf _, qc_vret (qc_at qkX1_keep 37 rfl) rfl (Nat.le_refl _) (Nat.le_refl _) (qc_eq.rf _ _ _)⟩
def fX1_keep (w : qcW) (I : qTI) (L : qTL) (D : qTD) (R : qTR) (x1 : Int32) : qcO Unit :=
  (qc_bd (fX1_isColumn w I L D R x1) fun r4 I4 L4 D4 R4 => if r4 = true then (qc_gd (qc_inb x1 10) <| fX1_keep_b18 w I4 L4 D4 R4 (I4 258 (Int32.toNatClampNeg x1))) else (fX1_keep_b18 w I4 L4 D4 R4 (-1 : Int32)))
set_option maxRecDepth 100000 in
set_option maxHeartbeats 4000000 in
theorem tX1_keep {w : qcW} {I : qTI} {L : qTL} {D : qTD} {R : qTR} {x1 : Int32} {r : Unit} {I' : qTI} {L' : qTL} {D' : qTD} {R' : qTR} (hn : qcNF ≤ w.1) (hR : qc_FR R) (h : fX1_keep w I L D R x1 = some (r, I', L', D', R')) : qc_fm qcSX (I, L, D, R) (I', L', D', R') ∧ qc_V (1) 0 0 qmX1_keep [.ref 257, .int x1] w (I, L, D, R) (qc_eq none w (I', L', D', R')) := by
  unfold fX1_keep at h
  refine And.imp_right (fun hx => qc_V.of rfl rfl (Nat.le_of_ble_eq_true rfl) (lv := [(0, .ref 257), (1, .int x1)]) rfl hx) ?_
  refine And.imp_right (fun hx => qc_aload_n (qc_at qkX1_keep 0 rfl) rfl <| qc_iload_n (qc_at qkX1_keep 1 rfl) rfl <| hx) ?_
  obtain ⟨r4, I4, L4, D4, R4, e4, h⟩ := qc_bd_of h
  have c4 := (tX1_isColumn hn hR e4)
  refine qd_cSv (qc_at qkX1_keep 2 rfl) ql_1_39 qfX1_isColumn c4 rfl rfl (Nat.le_of_ble_eq_true rfl) (qc_rml (by decide) (by decide)) ⟨Nat.zero_le _, Nat.zero_le _⟩ ?_
  refine qc_andB (qc_ifB_eq (qc_at qkX1_keep 3 rfl)) (fun u5 => ?_) (fun u5 => ?_)
  · replace h := qc_jf u5 h
    exact And.imp_right (fun hx => qc_iconst (qc_at qkX1_keep 9 rfl) <| qc_sub [0] rfl hx) (tX1_keep_b18 hn (c4.1.1 hR) h)
  · replace h := qc_jt u5 h
    refine And.imp_right (fun hx => qc_aload_n (qc_at qkX1_keep 4 rfl) rfl <| qc_gR (qc_at qkX1_keep 5 rfl) hn rfl (qfr_257_0 (c4.1.1 hR)) rfl <| qc_iload_n (qc_at qkX1_keep 6 rfl) rfl <| hx) ?_
    obtain ⟨g6, h⟩ := qc_gd_of h
    exact And.imp_right (fun hx => qc_iald 10 (qc_at qkX1_keep 7 rfl) hn rfl (qc_inb_in g6) <| qc_goto (qc_at qkX1_keep 8 rfl) <| qc_sub [0] rfl hx) (tX1_keep_b18 hn (c4.1.1 hR) h)
def fX1_giveBack (w : qcW) (I : qTI) (L : qTL) (D : qTD) (R : qTR) : qcO Unit :=
  (if (I 257 7) = (-1 : Int32) then (some ((), I, L, D, R)) else (qc_gd (qj_cok (0 : Int32) ((I 257 7) * (16 : Int32)) (16 : Int32) 16 160) <| qc_gd (qj_cok (0 : Int32) ((I 257 7) * (16 : Int32)) (16 : Int32) 16 160) <| some ((), I, (qj_cp L 263 261 (Int32.toNatClampNeg (0 : Int32)) (Int32.toNatClampNeg ((I 257 7) * (16 : Int32))) (Int32.toNatClampNeg (16 : Int32))), (qj_cp D 264 262 (Int32.toNatClampNeg (0 : Int32)) (Int32.toNatClampNeg ((I 257 7) * (16 : Int32))) (Int32.toNatClampNeg (16 : Int32))), R)))
set_option maxRecDepth 100000 in
set_option maxHeartbeats 4000000 in
theorem tX1_giveBack {w : qcW} {I : qTI} {L : qTL} {D : qTD} {R : qTR} {r : Unit} {I' : qTI} {L' : qTL} {D' : qTD} {R' : qTR} (hn : qcNF ≤ w.1) (hR : qc_FR R) (h : fX1_giveBack w I L D R = some (r, I', L', D', R')) : qc_fm qcSX (I, L, D, R) (I', L', D', R') ∧ qc_V (1) 0 0 qmX1_giveBack [.ref 257] w (I, L, D, R) (qc_eq none w (I', L', D', R')) := by
  unfold fX1_giveBack at h
  refine And.imp_right (fun hx => qc_V.of rfl rfl (Nat.le_of_ble_eq_true rfl) (lv := [(0, .ref 257)]) rfl hx) ?_
  refine And.imp_right (fun hx => qc_aload_n (qc_at qkX1_giveBack 0 rfl) rfl <| qc_gI (qc_at qkX1_giveBack 1 rfl) hn rfl <| qc_iconst (qc_at qkX1_giveBack 2 rfl) <| hx) ?_
  refine qc_andC (qc_icmp_eq (qc_at qkX1_giveBack 3 rfl)) (fun u1 => ?_) (fun u1 => ?_)
  · replace h := qc_jp u1 h
    obtain ⟨rfl, rfl, rfl, rfl, rfl⟩ := qc_some5 h
    exact ⟨qc_fm.rf _, qc_vret (qc_at qkX1_giveBack 26 rfl) rfl (Nat.le_refl _) (Nat.le_refl _) (qc_eq.rf _ _ _)⟩
  · replace h := qc_jn u1 h
    refine And.imp_right (fun hx => qc_aload_n (qc_at qkX1_giveBack 4 rfl) rfl <| qc_gR (qc_at qkX1_giveBack 5 rfl) hn rfl (qfr_257_5 hR) rfl <| qc_iconst (qc_at qkX1_giveBack 6 rfl) <| qc_aload_n (qc_at qkX1_giveBack 7 rfl) rfl <| qc_gR (qc_at qkX1_giveBack 8 rfl) hn rfl (qfr_257_3 hR) rfl <| qc_aload_n (qc_at qkX1_giveBack 9 rfl) rfl <| qc_gI (qc_at qkX1_giveBack 10 rfl) hn rfl <| qc_bipush (qc_at qkX1_giveBack 11 rfl) <| qc_imul (qc_at qkX1_giveBack 12 rfl) <| qc_bipush (qc_at qkX1_giveBack 13 rfl) <| hx) ?_
    obtain ⟨g2, h⟩ := qc_gd_of h
    refine qd_cpl (qc_at qkX1_giveBack 14 rfl) qj_acL1_86 (qc_kaf hn rfl) (qc_kaf hn rfl) g2 (Nat.le_of_ble_eq_true rfl) ⟨by decide, by decide⟩ rfl ?_
    refine And.imp_right (fun hx => qc_aload_n (qc_at qkX1_giveBack 15 rfl) rfl <| qc_gR (qc_at qkX1_giveBack 16 rfl) hn rfl (qfr_257_6 hR) rfl <| qc_iconst (qc_at qkX1_giveBack 17 rfl) <| qc_aload_n (qc_at qkX1_giveBack 18 rfl) rfl <| qc_gR (qc_at qkX1_giveBack 19 rfl) hn rfl (qfr_257_4 hR) rfl <| qc_aload_n (qc_at qkX1_giveBack 20 rfl) rfl <| qc_gI (qc_at qkX1_giveBack 21 rfl) hn rfl <| qc_bipush (qc_at qkX1_giveBack 22 rfl) <| qc_imul (qc_at qkX1_giveBack 23 rfl) <| qc_bipush (qc_at qkX1_giveBack 24 rfl) <| hx) ?_
    obtain ⟨g3, h⟩ := qc_gd_of h
    refine qd_cpd (qc_at qkX1_giveBack 25 rfl) qj_acL1_86 (qc_kaf hn rfl) (qc_kaf hn rfl) g3 (Nat.le_of_ble_eq_true rfl) ⟨by decide, by decide⟩ rfl ?_
    obtain ⟨rfl, rfl, rfl, rfl, rfl⟩ := qc_some5 h
    exact ⟨qc_fm.rf _, qc_vret (qc_at qkX1_giveBack 26 rfl) rfl (Nat.le_refl _) (Nat.le_refl _) (qc_eq.rf _ _ _)⟩
def fX10_hasRoom (w : qcW) (I : qTI) (L : qTL) (D : qTD) (R : qTR) : qcO Bool :=
  (if (400 : Int32) < ((I 265 1) + (20 : Int32)) then (some (false, I, L, D, R)) else (some (true, I, L, D, R)))
set_option maxRecDepth 100000 in
set_option maxHeartbeats 4000000 in
theorem tX10_hasRoom {w : qcW} {I : qTI} {L : qTL} {D : qTD} {R : qTR} {r : Bool} {I' : qTI} {L' : qTL} {D' : qTD} {R' : qTR} (hn : qcNF ≤ w.1) (hR : qc_FR R) (h : fX10_hasRoom w I L D R = some (r, I', L', D', R')) : qc_fm qcSX (I, L, D, R) (I', L', D', R') ∧ qc_V (0) 0 0 qmX10_hasRoom [.ref 265] w (I, L, D, R) (qc_eq (some (.int (qc_b r))) w (I', L', D', R')) := by
  unfold fX10_hasRoom at h
  refine And.imp_right (fun hx => qc_V.of rfl rfl (Nat.le_of_ble_eq_true rfl) (lv := [(0, .ref 265)]) rfl hx) ?_
  refine And.imp_right (fun hx => qc_aload_n (qc_at qkX10_hasRoom 0 rfl) rfl <| qc_gI (qc_at qkX10_hasRoom 1 rfl) hn rfl <| qc_bipush (qc_at qkX10_hasRoom 2 rfl) <| qc_iadd (qc_at qkX10_hasRoom 3 rfl) <| qc_sipush (qc_at qkX10_hasRoom 4 rfl) <| hx) ?_
  refine qc_andC (qc_icmp_gt (qc_at qkX10_hasRoom 5 rfl)) (fun u1 => ?_) (fun u1 => ?_)
  · replace h := qc_jp u1 h
    obtain ⟨rfl, rfl, rfl, rfl, rfl⟩ := qc_some5 h
    exact ⟨qc_fm.rf _, qc_iconst (qc_at qkX10_hasRoom 8 rfl) <| qc_zret (qc_at qkX10_hasRoom 9 rfl) rfl (Or.inl rfl) (Nat.le_refl _) (Nat.le_refl _) ⟨rfl, rfl, rfl⟩⟩
  · replace h := qc_jn u1 h
    obtain ⟨rfl, rfl, rfl, rfl, rfl⟩ := qc_some5 h
    exact ⟨qc_fm.rf _, qc_iconst (qc_at qkX10_hasRoom 6 rfl) <| qc_goto (qc_at qkX10_hasRoom 7 rfl) <| qc_zret (qc_at qkX10_hasRoom 9 rfl) rfl (Or.inr rfl) (Nat.le_refl _) (Nat.le_refl _) ⟨rfl, rfl, rfl⟩⟩
def fX10_append_b43 (w : qcW) (k3 : qTI × qTL × qTD × qTR × Int32 × Int32 → qcO Unit) (I : qTI) (L : qTL) (D : qTD) (R : qTR) (x1 : Int32) (x2 : Int32) : qcO Unit :=
  (k3 (I, L, D, R, x1, (x2 + (-8))))
set_option maxRecDepth 100000 in
set_option maxHeartbeats 4000000 in
theorem tX10_append_b43 {w : qcW} {I : qTI} {L : qTL} {D : qTD} {R : qTR} {k3 : qTI × qTL × qTD × qTR × Int32 × Int32 → qcO Unit} {x1 : Int32} {x2 : Int32} {r : Unit} {I' : qTI} {L' : qTL} {D' : qTD} {R' : qTR} (hn : qcNF ≤ w.1) (hR : qc_FR R) (hk3 : ∀ {I : qTI} {L : qTL} {D : qTD} {R : qTR} {x1 : Int32} {x2 : Int32} {r : Unit} {I' : qTI} {L' : qTL} {D' : qTD} {R' : qTR}, qc_FR R → k3 (I, L, D, R, x1, x2) = some (r, I', L', D', R') → qc_fm qcSX (I, L, D, R) (I', L', D', R') ∧ qc_X (qc_rm (0) 0 0) qmX10_append (qc_QM 0 0 (qc_eq none w (I', L', D', R'))) 0 0 w (3, [(0, .ref 265), (1, .int x1), (2, .int x2)], [], I, L, D, R)) (h : fX10_append_b43 w k3 I L D R x1 x2 = some (r, I', L', D', R')) : qc_fm qcSX (I, L, D, R) (I', L', D', R') ∧ qc_X (qc_rm (0) 0 0) qmX10_append (qc_QM 0 0 (qc_eq none w (I', L', D', R'))) 0 0 w (43, [(0, .ref 265), (1, .int x1), (2, .int x2)], [], I, L, D, R) := by
  unfold fX10_append_b43 at h
  exact And.imp_right (fun hx => qc_iinc (lv' := [(2, _), (0, _), (1, _)]) (qc_at qkX10_append 24 rfl) rfl rfl rfl <| qc_goto (qc_at qkX10_append 25 rfl) <| qc_sub [1, 2, 0] rfl hx) (hk3 hR h)
def fX10_append_b3 (w : qcW) (k3 : qTI × qTL × qTD × qTR × Int32 × Int32 → qcO Unit) (I : qTI) (L : qTL) (D : qTD) (R : qTR) (x1 : Int32) (x2 : Int32) : qcO Unit :=
  (if x2 < 0 then (some ((), I, L, D, R)) else (if (400 : Int32) ≤ (I 265 1) then (fX10_append_b43 w k3 I L D R x1 x2) else (qc_gd (qc_inb (I 265 1) 400) <| fX10_append_b43 w k3 (qc_u (qc_u I 266 (Int32.toNatClampNeg (I 265 1)) ((UInt32.toInt32 (Int32.toUInt32 x1 >>> (Int32.toUInt32 x2 &&& Int32.toUInt32 31))) &&& (255 : Int32))) 265 1 (((qc_u I 266 (Int32.toNatClampNeg (I 265 1)) ((UInt32.toInt32 (Int32.toUInt32 x1 >>> (Int32.toUInt32 x2 &&& Int32.toUInt32 31))) &&& (255 : Int32))) 265 1) + (1 : Int32))) L D R x1 x2)))
set_option maxRecDepth 100000 in
set_option maxHeartbeats 4000000 in
theorem tX10_append_b3 {w : qcW} {I : qTI} {L : qTL} {D : qTD} {R : qTR} {k3 : qTI × qTL × qTD × qTR × Int32 × Int32 → qcO Unit} {x1 : Int32} {x2 : Int32} {r : Unit} {I' : qTI} {L' : qTL} {D' : qTD} {R' : qTR} (hn : qcNF ≤ w.1) (hR : qc_FR R) (hk3 : ∀ {I : qTI} {L : qTL} {D : qTD} {R : qTR} {x1 : Int32} {x2 : Int32} {r : Unit} {I' : qTI} {L' : qTL} {D' : qTD} {R' : qTR}, qc_FR R → k3 (I, L, D, R, x1, x2) = some (r, I', L', D', R') → qc_fm qcSX (I, L, D, R) (I', L', D', R') ∧ qc_X (qc_rm (0) 0 0) qmX10_append (qc_QM 0 0 (qc_eq none w (I', L', D', R'))) 0 0 w (3, [(0, .ref 265), (1, .int x1), (2, .int x2)], [], I, L, D, R)) (h : fX10_append_b3 w k3 I L D R x1 x2 = some (r, I', L', D', R')) : qc_fm qcSX (I, L, D, R) (I', L', D', R') ∧ qc_X (qc_rm (0) 0 0) qmX10_append (qc_QM 0 0 (qc_eq none w (I', L', D', R'))) 0 0 w (3, [(0, .ref 265), (1, .int x1), (2, .int x2)], [], I, L, D, R) := by
  unfold fX10_append_b3 at h
  refine And.imp_right (fun hx => qc_iload_n (qc_at qkX10_append 2 rfl) rfl <| hx) ?_
  refine qc_andC (qc_if_lt (qc_at qkX10_append 3 rfl)) (fun u1 => ?_) (fun u1 => ?_)
  · replace h := qc_jp u1 h
    obtain ⟨rfl, rfl, rfl, rfl, rfl⟩ := qc_some5 h
    exact ⟨qc_fm.rf _, qc_vret (qc_at qkX10_append 26 rfl) rfl (Nat.le_refl _) (Nat.le_refl _) (qc_eq.rf _ _ _)⟩
  · replace h := qc_jn u1 h
    refine And.imp_right (fun hx => qc_aload_n (qc_at qkX10_append 4 rfl) rfl <| qc_gI (qc_at qkX10_append 5 rfl) hn rfl <| qc_sipush (qc_at qkX10_append 6 rfl) <| hx) ?_
    refine qc_andC (qc_icmp_ge (qc_at qkX10_append 7 rfl)) (fun u2 => ?_) (fun u2 => ?_)
    · replace h := qc_jp u2 h
      exact And.imp_right (fun hx => qc_sub [0, 1, 2] rfl hx) (tX10_append_b43 hn hR hk3 h)
    · replace h := qc_jn u2 h
      refine And.imp_right (fun hx => qc_aload_n (qc_at qkX10_append 8 rfl) rfl <| qc_gR (qc_at qkX10_append 9 rfl) hn rfl (qfr_265_0 hR) rfl <| qc_aload_n (qc_at qkX10_append 10 rfl) rfl <| qc_gI (qc_at qkX10_append 11 rfl) hn rfl <| qc_iload_n (qc_at qkX10_append 12 rfl) rfl <| qc_iload_n (qc_at qkX10_append 13 rfl) rfl <| qc_iushr (qc_at qkX10_append 14 rfl) <| qc_sipush (qc_at qkX10_append 15 rfl) <| qc_iand (qc_at qkX10_append 16 rfl) <| hx) ?_
      obtain ⟨g3, h⟩ := qc_gd_of h
      refine qd_iast 400 (qc_at qkX10_append 17 rfl) hn rfl (qc_inb_in g3) rfl ?_
      refine And.imp_right (fun hx => qc_aload_n (qc_at qkX10_append 18 rfl) rfl <| qc_dup (qc_at qkX10_append 19 rfl) rfl <| qc_gI (qc_at qkX10_append 20 rfl) hn rfl <| qc_iconst (qc_at qkX10_append 21 rfl) <| qc_iadd (qc_at qkX10_append 22 rfl) <| hx) (qd_pI (qc_at qkX10_append 23 rfl) hn rfl rfl ?_)
      exact And.imp_right (fun hx => qc_sub [0, 1, 2] rfl hx) (tX10_append_b43 hn hR hk3 h)
def fX10_append_l3 (w : qcW) : Nat → qTI × qTL × qTD × qTR × Int32 × Int32 → qcO Unit := qc_lp (fun k q => match q with | (I, L, D, R, x1, x2) => fX10_append_b3 w k I L D R x1 x2)
set_option maxRecDepth 100000 in
set_option maxHeartbeats 4000000 in
theorem tX10_append_l3 {w : qcW} (hn : qcNF ≤ w.1) : ∀ (n : Nat) {r : Unit} {I' : qTI} {L' : qTL} {D' : qTD} {R' : qTR} {I : qTI} {L : qTL} {D : qTD} {R : qTR} {x1 : Int32} {x2 : Int32} (hR : qc_FR R) (h : fX10_append_l3 w n (I, L, D, R, x1, x2) = some (r, I', L', D', R')), qc_fm qcSX (I, L, D, R) (I', L', D', R') ∧ qc_X (qc_rm (0) 0 0) qmX10_append (qc_QM 0 0 (qc_eq none w (I', L', D', R'))) 0 0 w (3, [(0, .ref 265), (1, .int x1), (2, .int x2)], [], I, L, D, R) := by
  intro n
  induction n with
  | zero => intro _ _ _ _ _ _ _ _ _ _ _ _ h; cases h
  | succ n ih => intro _ _ _ _ _ _ _ _ _ _ _ hR h; exact tX10_append_b3 hn hR (k3 := fX10_append_l3 w n) (fun hR h => ih hR h) h
def fX10_append (w : qcW) (I : qTI) (L : qTL) (D : qTD) (R : qTR) (x1 : Int32) : qcO Unit :=
  (fX10_append_l3 w qcF (I, L, D, R, x1, (24 : Int32)))
set_option maxRecDepth 100000 in
set_option maxHeartbeats 4000000 in
theorem tX10_append {w : qcW} {I : qTI} {L : qTL} {D : qTD} {R : qTR} {x1 : Int32} {r : Unit} {I' : qTI} {L' : qTL} {D' : qTD} {R' : qTR} (hn : qcNF ≤ w.1) (hR : qc_FR R) (h : fX10_append w I L D R x1 = some (r, I', L', D', R')) : qc_fm qcSX (I, L, D, R) (I', L', D', R') ∧ qc_V (0) 0 0 qmX10_append [.ref 265, .int x1] w (I, L, D, R) (qc_eq none w (I', L', D', R')) := by
  unfold fX10_append at h
  refine And.imp_right (fun hx => qc_V.of rfl rfl (Nat.le_of_ble_eq_true rfl) (lv := [(0, .ref 265), (1, .int x1)]) rfl hx) ?_
  exact And.imp_right (fun hx => qc_bipush (qc_at qkX10_append 0 rfl) <| qc_istore_n (lv' := [(2, _), (0, _), (1, _)]) (qc_at qkX10_append 1 rfl) rfl rfl <| qc_sub [1, 2, 0] rfl hx) (tX10_append_l3 hn qcF hR h)
def fX10_cut (w : qcW) (I : qTI) (L : qTL) (D : qTD) (R : qTR) (x1 : Int32) : qcO Bool :=
  (if x1 < 0 then (some (false, I, L, D, R)) else (if x1 ≤ (I 265 1) then (some (true, (qc_u I 265 1 x1), L, D, R)) else (some (false, I, L, D, R))))
set_option maxRecDepth 100000 in
set_option maxHeartbeats 4000000 in
theorem tX10_cut {w : qcW} {I : qTI} {L : qTL} {D : qTD} {R : qTR} {x1 : Int32} {r : Bool} {I' : qTI} {L' : qTL} {D' : qTD} {R' : qTR} (hn : qcNF ≤ w.1) (hR : qc_FR R) (h : fX10_cut w I L D R x1 = some (r, I', L', D', R')) : qc_fm qcSX (I, L, D, R) (I', L', D', R') ∧ qc_V (0) 0 0 qmX10_cut [.ref 265, .int x1] w (I, L, D, R) (qc_eq (some (.int (qc_b r))) w (I', L', D', R')) := by
  unfold fX10_cut at h
  refine And.imp_right (fun hx => qc_V.of rfl rfl (Nat.le_of_ble_eq_true rfl) (lv := [(0, .ref 265), (1, .int x1)]) rfl hx) ?_
  refine And.imp_right (fun hx => qc_iload_n (qc_at qkX10_cut 0 rfl) rfl <| hx) ?_
  refine qc_andC (qc_if_lt (qc_at qkX10_cut 1 rfl)) (fun u1 => ?_) (fun u1 => ?_)
  · replace h := qc_jp u1 h
    obtain ⟨rfl, rfl, rfl, rfl, rfl⟩ := qc_some5 h
    exact ⟨qc_fm.rf _, qc_iconst (qc_at qkX10_cut 6 rfl) <| qc_zret (qc_at qkX10_cut 7 rfl) rfl (Or.inl rfl) (Nat.le_refl _) (Nat.le_refl _) ⟨rfl, rfl, rfl⟩⟩
  · replace h := qc_jn u1 h
    refine And.imp_right (fun hx => qc_iload_n (qc_at qkX10_cut 2 rfl) rfl <| qc_aload_n (qc_at qkX10_cut 3 rfl) rfl <| qc_gI (qc_at qkX10_cut 4 rfl) hn rfl <| hx) ?_
    refine qc_andC (qc_icmp_le (qc_at qkX10_cut 5 rfl)) (fun u2 => ?_) (fun u2 => ?_)
    · replace h := qc_jp u2 h
      refine And.imp_right (fun hx => qc_aload_n (qc_at qkX10_cut 8 rfl) rfl <| qc_iload_n (qc_at qkX10_cut 9 rfl) rfl <| hx) (qd_pI (qc_at qkX10_cut 10 rfl) hn rfl rfl ?_)
      obtain ⟨rfl, rfl, rfl, rfl, rfl⟩ := qc_some5 h
      exact ⟨qc_fm.rf _, qc_iconst (qc_at qkX10_cut 11 rfl) <| qc_zret (qc_at qkX10_cut 12 rfl) rfl (Or.inr rfl) (Nat.le_refl _) (Nat.le_refl _) ⟨rfl, rfl, rfl⟩⟩
    · replace h := qc_jn u2 h
      obtain ⟨rfl, rfl, rfl, rfl, rfl⟩ := qc_some5 h
      exact ⟨qc_fm.rf _, qc_iconst (qc_at qkX10_cut 6 rfl) <| qc_zret (qc_at qkX10_cut 7 rfl) rfl (Or.inl rfl) (Nat.le_refl _) (Nat.le_refl _) ⟨rfl, rfl, rfl⟩⟩
def fX10_at (w : qcW) (I : qTI) (L : qTL) (D : qTD) (R : qTR) (x1 : Int32) : qcO Int32 :=
  (if x1 < 0 then (some ((-1 : Int32), I, L, D, R)) else (if (I 265 1) ≤ x1 then (some ((-1 : Int32), I, L, D, R)) else (qc_gd (qc_inb x1 400) <| some ((I 266 (Int32.toNatClampNeg x1)), I, L, D, R))))
set_option maxRecDepth 100000 in
set_option maxHeartbeats 4000000 in
theorem tX10_at {w : qcW} {I : qTI} {L : qTL} {D : qTD} {R : qTR} {x1 : Int32} {r : Int32} {I' : qTI} {L' : qTL} {D' : qTD} {R' : qTR} (hn : qcNF ≤ w.1) (hR : qc_FR R) (h : fX10_at w I L D R x1 = some (r, I', L', D', R')) : qc_fm qcSX (I, L, D, R) (I', L', D', R') ∧ qc_V (0) 0 0 qmX10_at [.ref 265, .int x1] w (I, L, D, R) (qc_eq (some (.int r)) w (I', L', D', R')) := by
  unfold fX10_at at h
  refine And.imp_right (fun hx => qc_V.of rfl rfl (Nat.le_of_ble_eq_true rfl) (lv := [(0, .ref 265), (1, .int x1)]) rfl hx) ?_
  refine And.imp_right (fun hx => qc_iload_n (qc_at qkX10_at 0 rfl) rfl <| hx) ?_
  refine qc_andC (qc_if_lt (qc_at qkX10_at 1 rfl)) (fun u1 => ?_) (fun u1 => ?_)
  · replace h := qc_jp u1 h
    obtain ⟨rfl, rfl, rfl, rfl, rfl⟩ := qc_some5 h
    exact ⟨qc_fm.rf _, qc_iconst (qc_at qkX10_at 11 rfl) <| qc_iret (qc_at qkX10_at 12 rfl) rfl (Nat.le_refl _) (Nat.le_refl _) (qc_eq.rf _ _ _)⟩
  · replace h := qc_jn u1 h
    refine And.imp_right (fun hx => qc_iload_n (qc_at qkX10_at 2 rfl) rfl <| qc_aload_n (qc_at qkX10_at 3 rfl) rfl <| qc_gI (qc_at qkX10_at 4 rfl) hn rfl <| hx) ?_
    refine qc_andC (qc_icmp_ge (qc_at qkX10_at 5 rfl)) (fun u2 => ?_) (fun u2 => ?_)
    · replace h := qc_jp u2 h
      obtain ⟨rfl, rfl, rfl, rfl, rfl⟩ := qc_some5 h
      exact ⟨qc_fm.rf _, qc_iconst (qc_at qkX10_at 11 rfl) <| qc_iret (qc_at qkX10_at 12 rfl) rfl (Nat.le_refl _) (Nat.le_refl _) (qc_eq.rf _ _ _)⟩
    · replace h := qc_jn u2 h
      refine And.imp_right (fun hx => qc_aload_n (qc_at qkX10_at 6 rfl) rfl <| qc_gR (qc_at qkX10_at 7 rfl) hn rfl (qfr_265_0 hR) rfl <| qc_iload_n (qc_at qkX10_at 8 rfl) rfl <| hx) ?_
      obtain ⟨g3, h⟩ := qc_gd_of h
      obtain ⟨rfl, rfl, rfl, rfl, rfl⟩ := qc_some5 h
      exact ⟨qc_fm.rf _, qc_iald 400 (qc_at qkX10_at 9 rfl) hn rfl (qc_inb_in g3) <| qc_goto (qc_at qkX10_at 10 rfl) <| qc_iret (qc_at qkX10_at 12 rfl) rfl (Nat.le_refl _) (Nat.le_refl _) (qc_eq.rf _ _ _)⟩
def fX10_hasAt_b21 (w : qcW) (k21 : qTI × qTL × qTD × qTR × Int32 × Nat × Int32 → qcO Bool) (I : qTI) (L : qTL) (D : qTD) (R : qTR) (x1 : Int32) (x2 : Nat) (x3 : Int32) : qcO Bool :=
  (qc_gd (Nat.blt x2 58) <| (if (nI (qc_sxLen.getD x2 0)) ≤ x3 then (some (true, I, L, D, R)) else (qc_gd (qc_inb (x1 + x3) 400) <| qc_gd (qc_inb x3 (qc_sxLen.getD x2 0)) <| if (I 266 (Int32.toNatClampNeg (x1 + x3))) = (qj_ch x2 x3) then (k21 (I, L, D, R, x1, x2, (x3 + (1)))) else (some (false, I, L, D, R)))))
set_option maxRecDepth 100000 in
set_option maxHeartbeats 4000000 in
theorem tX10_hasAt_b21 {w : qcW} {I : qTI} {L : qTL} {D : qTD} {R : qTR} {k21 : qTI × qTL × qTD × qTR × Int32 × Nat × Int32 → qcO Bool} {x1 : Int32} {x2 : Nat} {x3 : Int32} {r : Bool} {I' : qTI} {L' : qTL} {D' : qTD} {R' : qTR} (hn : qcNF ≤ w.1) (hR : qc_FR R) (hk21 : ∀ {I : qTI} {L : qTL} {D : qTD} {R : qTR} {x1 : Int32} {x2 : Nat} {x3 : Int32} {r : Bool} {I' : qTI} {L' : qTL} {D' : qTD} {R' : qTR}, qc_FR R → k21 (I, L, D, R, x1, x2, x3) = some (r, I', L', D', R') → qc_fm qcSX (I, L, D, R) (I', L', D', R') ∧ qc_X (qc_rm (4) 0 0) qmX10_hasAt (qc_QM 0 0 (qc_eq (some (.int (qc_b r))) w (I', L', D', R'))) 0 0 w (21, [(0, .ref 265), (1, .int x1), (2, .ref (64 + x2)), (3, .int x3)], [], I, L, D, R)) (h : fX10_hasAt_b21 w k21 I L D R x1 x2 x3 = some (r, I', L', D', R')) : qc_fm qcSX (I, L, D, R) (I', L', D', R') ∧ qc_X (qc_rm (4) 0 0) qmX10_hasAt (qc_QM 0 0 (qc_eq (some (.int (qc_b r))) w (I', L', D', R'))) 0 0 w (21, [(0, .ref 265), (1, .int x1), (2, .ref (64 + x2)), (3, .int x3)], [], I, L, D, R) := by
  unfold fX10_hasAt_b21 at h
  obtain ⟨g1, h⟩ := qc_gd_of h
  replace g1 := Nat.blt_eq.mp g1
  refine And.imp_right (fun hx => qc_iload_n (qc_at qkX10_hasAt 13 rfl) rfl <| qc_aload_n (qc_at qkX10_hasAt 14 rfl) rfl <| qc_cVS (qc_at qkX10_hasAt 15 rfl) ql_10_19 qfJ0_length_8abf5 g1 rfl (sJ_length _ _ g1) rfl rfl (Nat.le_of_ble_eq_true rfl) (qc_rml (d := 1) (by decide) (by decide)) ⟨Nat.zero_le _, Nat.zero_le _⟩ <| hx) ?_
  refine qc_andC (qc_icmp_ge (qc_at qkX10_hasAt 16 rfl)) (fun u2 => ?_) (fun u2 => ?_)
  · replace h := qc_jp u2 h
    obtain ⟨rfl, rfl, rfl, rfl, rfl⟩ := qc_some5 h
    exact ⟨qc_fm.rf _, qc_iconst (qc_at qkX10_hasAt 31 rfl) <| qc_zret (qc_at qkX10_hasAt 32 rfl) rfl (Or.inr rfl) (Nat.le_refl _) (Nat.le_refl _) ⟨rfl, rfl, rfl⟩⟩
  · replace h := qc_jn u2 h
    refine And.imp_right (fun hx => qc_aload_n (qc_at qkX10_hasAt 17 rfl) rfl <| qc_gR (qc_at qkX10_hasAt 18 rfl) hn rfl (qfr_265_0 hR) rfl <| qc_iload_n (qc_at qkX10_hasAt 19 rfl) rfl <| qc_iload_n (qc_at qkX10_hasAt 20 rfl) rfl <| qc_iadd (qc_at qkX10_hasAt 21 rfl) <| hx) ?_
    obtain ⟨g3, h⟩ := qc_gd_of h
    refine And.imp_right (fun hx => qc_iald 400 (qc_at qkX10_hasAt 22 rfl) hn rfl (qc_inb_in g3) <| qc_aload_n (qc_at qkX10_hasAt 23 rfl) rfl <| qc_iload_n (qc_at qkX10_hasAt 24 rfl) rfl <| hx) ?_
    obtain ⟨g4, h⟩ := qc_gd_of h
    refine And.imp_right (fun hx => qc_cVS (qc_at qkX10_hasAt 25 rfl) ql_10_24 qfJ0_charAt_5068e g1 rfl (sJ_charAt _ _ g1 g4) rfl rfl (Nat.le_of_ble_eq_true rfl) (qc_rml (d := 3) (by decide) (by decide)) ⟨Nat.zero_le _, Nat.zero_le _⟩ <| hx) ?_
    refine qc_andC (qc_icmp_eq (qc_at qkX10_hasAt 26 rfl)) (fun u5 => ?_) (fun u5 => ?_)
    · replace h := qc_jp u5 h
      exact And.imp_right (fun hx => qc_iinc (lv' := [(3, _), (0, _), (1, _), (2, _)]) (qc_at qkX10_hasAt 29 rfl) rfl rfl rfl <| qc_goto (qc_at qkX10_hasAt 30 rfl) <| qc_sub [1, 2, 3, 0] rfl hx) (hk21 hR h)
    · replace h := qc_jn u5 h
      obtain ⟨rfl, rfl, rfl, rfl, rfl⟩ := qc_some5 h
      exact ⟨qc_fm.rf _, qc_iconst (qc_at qkX10_hasAt 27 rfl) <| qc_zret (qc_at qkX10_hasAt 28 rfl) rfl (Or.inl rfl) (Nat.le_refl _) (Nat.le_refl _) ⟨rfl, rfl, rfl⟩⟩
def fX10_hasAt_l21 (w : qcW) : Nat → qTI × qTL × qTD × qTR × Int32 × Nat × Int32 → qcO Bool := qc_lp (fun k q => match q with | (I, L, D, R, x1, x2, x3) => fX10_hasAt_b21 w k I L D R x1 x2 x3)
set_option maxRecDepth 100000 in
set_option maxHeartbeats 4000000 in
theorem tX10_hasAt_l21 {w : qcW} (hn : qcNF ≤ w.1) : ∀ (n : Nat) {r : Bool} {I' : qTI} {L' : qTL} {D' : qTD} {R' : qTR} {I : qTI} {L : qTL} {D : qTD} {R : qTR} {x1 : Int32} {x2 : Nat} {x3 : Int32} (hR : qc_FR R) (h : fX10_hasAt_l21 w n (I, L, D, R, x1, x2, x3) = some (r, I', L', D', R')), qc_fm qcSX (I, L, D, R) (I', L', D', R') ∧ qc_X (qc_rm (4) 0 0) qmX10_hasAt (qc_QM 0 0 (qc_eq (some (.int (qc_b r))) w (I', L', D', R'))) 0 0 w (21, [(0, .ref 265), (1, .int x1), (2, .ref (64 + x2)), (3, .int x3)], [], I, L, D, R) := by
  intro n
  induction n with
  | zero => intro _ _ _ _ _ _ _ _ _ _ _ _ _ h; cases h
  | succ n ih => intro _ _ _ _ _ _ _ _ _ _ _ _ hR h; exact tX10_hasAt_b21 hn hR (k21 := fX10_hasAt_l21 w n) (fun hR h => ih hR h) h
def fX10_hasAt (w : qcW) (I : qTI) (L : qTL) (D : qTD) (R : qTR) (x1 : Int32) (x2 : Nat) : qcO Bool :=
  (qc_gd (Nat.blt x2 58) <| (if x1 < 0 then (some (false, I, L, D, R)) else (if x1 ≤ ((I 265 1) - (nI (qc_sxLen.getD x2 0))) then (fX10_hasAt_l21 w qcF (I, L, D, R, x1, x2, (0 : Int32))) else (some (false, I, L, D, R)))))
set_option maxRecDepth 100000 in
set_option maxHeartbeats 4000000 in
theorem tX10_hasAt {w : qcW} {I : qTI} {L : qTL} {D : qTD} {R : qTR} {x1 : Int32} {x2 : Nat} {r : Bool} {I' : qTI} {L' : qTL} {D' : qTD} {R' : qTR} (hn : qcNF ≤ w.1) (hR : qc_FR R) (h : fX10_hasAt w I L D R x1 x2 = some (r, I', L', D', R')) : qc_fm qcSX (I, L, D, R) (I', L', D', R') ∧ qc_V (4) 0 0 qmX10_hasAt [.ref 265, .int x1, .ref (64 + x2)] w (I, L, D, R) (qc_eq (some (.int (qc_b r))) w (I', L', D', R')) := by
  unfold fX10_hasAt at h
  refine And.imp_right (fun hx => qc_V.of rfl rfl (Nat.le_of_ble_eq_true rfl) (lv := [(0, .ref 265), (1, .int x1), (2, .ref (64 + x2))]) rfl hx) ?_
  obtain ⟨g6, h⟩ := qc_gd_of h
  replace g6 := Nat.blt_eq.mp g6
  refine And.imp_right (fun hx => qc_iload_n (qc_at qkX10_hasAt 0 rfl) rfl <| hx) ?_
  refine qc_andC (qc_if_lt (qc_at qkX10_hasAt 1 rfl)) (fun u7 => ?_) (fun u7 => ?_)
  · replace h := qc_jp u7 h
    obtain ⟨rfl, rfl, rfl, rfl, rfl⟩ := qc_some5 h
    exact ⟨qc_fm.rf _, qc_iconst (qc_at qkX10_hasAt 9 rfl) <| qc_zret (qc_at qkX10_hasAt 10 rfl) rfl (Or.inl rfl) (Nat.le_refl _) (Nat.le_refl _) ⟨rfl, rfl, rfl⟩⟩
  · replace h := qc_jn u7 h
    refine And.imp_right (fun hx => qc_iload_n (qc_at qkX10_hasAt 2 rfl) rfl <| qc_aload_n (qc_at qkX10_hasAt 3 rfl) rfl <| qc_gI (qc_at qkX10_hasAt 4 rfl) hn rfl <| qc_aload_n (qc_at qkX10_hasAt 5 rfl) rfl <| qc_cVS (qc_at qkX10_hasAt 6 rfl) ql_10_19 qfJ0_length_8abf5 g6 rfl (sJ_length _ _ g6) rfl rfl (Nat.le_of_ble_eq_true rfl) (qc_rml (d := 1) (by decide) (by decide)) ⟨Nat.zero_le _, Nat.zero_le _⟩ <| qc_isub (qc_at qkX10_hasAt 7 rfl) <| hx) ?_
    refine qc_andC (qc_icmp_le (qc_at qkX10_hasAt 8 rfl)) (fun u8 => ?_) (fun u8 => ?_)
    · replace h := qc_jp u8 h
      exact And.imp_right (fun hx => qc_iconst (qc_at qkX10_hasAt 11 rfl) <| qc_istore_n (lv' := [(3, _), (0, _), (1, _), (2, _)]) (qc_at qkX10_hasAt 12 rfl) rfl rfl <| qc_sub [1, 2, 3, 0] rfl hx) (tX10_hasAt_l21 hn qcF hR h)
    · replace h := qc_jn u8 h
      obtain ⟨rfl, rfl, rfl, rfl, rfl⟩ := qc_some5 h
      exact ⟨qc_fm.rf _, qc_iconst (qc_at qkX10_hasAt 9 rfl) <| qc_zret (qc_at qkX10_hasAt 10 rfl) rfl (Or.inl rfl) (Nat.le_refl _) (Nat.le_refl _) ⟨rfl, rfl, rfl⟩⟩
def fX9_isBlank (w : qcW) (I : qTI) (L : qTL) (D : qTD) (R : qTR) (x0 : Int32) : qcO Bool :=
  (if x0 = (32 : Int32) then (some (true, I, L, D, R)) else (if x0 = (10 : Int32) then (some (true, I, L, D, R)) else (some (false, I, L, D, R))))
set_option maxRecDepth 100000 in
set_option maxHeartbeats 4000000 in
theorem tX9_isBlank {w : qcW} {I : qTI} {L : qTL} {D : qTD} {R : qTR} {x0 : Int32} {r : Bool} {I' : qTI} {L' : qTL} {D' : qTD} {R' : qTR} (hn : qcNF ≤ w.1) (hR : qc_FR R) (h : fX9_isBlank w I L D R x0 = some (r, I', L', D', R')) : qc_fm qcSX (I, L, D, R) (I', L', D', R') ∧ qc_V (0) 0 0 qmX9_isBlank [.int x0] w (I, L, D, R) (qc_eq (some (.int (qc_b r))) w (I', L', D', R')) := by
  unfold fX9_isBlank at h
  refine And.imp_right (fun hx => qc_V.of rfl rfl (Nat.le_of_ble_eq_true rfl) (lv := [(0, .int x0)]) rfl hx) ?_
  refine And.imp_right (fun hx => qc_iload_n (qc_at qkX9_isBlank 0 rfl) rfl <| qc_bipush (qc_at qkX9_isBlank 1 rfl) <| hx) ?_
  refine qc_andC (qc_icmp_eq (qc_at qkX9_isBlank 2 rfl)) (fun u1 => ?_) (fun u1 => ?_)
  · replace h := qc_jp u1 h
    obtain ⟨rfl, rfl, rfl, rfl, rfl⟩ := qc_some5 h
    exact ⟨qc_fm.rf _, qc_iconst (qc_at qkX9_isBlank 6 rfl) <| qc_goto (qc_at qkX9_isBlank 7 rfl) <| qc_zret (qc_at qkX9_isBlank 9 rfl) rfl (Or.inr rfl) (Nat.le_refl _) (Nat.le_refl _) ⟨rfl, rfl, rfl⟩⟩
  · replace h := qc_jn u1 h
    refine And.imp_right (fun hx => qc_iload_n (qc_at qkX9_isBlank 3 rfl) rfl <| qc_bipush (qc_at qkX9_isBlank 4 rfl) <| hx) ?_
    refine qc_andN (qc_icmp_ne (qc_at qkX9_isBlank 5 rfl)) (fun u2 => ?_) (fun u2 => ?_)
    · replace h := qc_jn u2 h
      obtain ⟨rfl, rfl, rfl, rfl, rfl⟩ := qc_some5 h
      exact ⟨qc_fm.rf _, qc_iconst (qc_at qkX9_isBlank 8 rfl) <| qc_zret (qc_at qkX9_isBlank 9 rfl) rfl (Or.inl rfl) (Nat.le_refl _) (Nat.le_refl _) ⟨rfl, rfl, rfl⟩⟩
    · replace h := qc_jp u2 h
      obtain ⟨rfl, rfl, rfl, rfl, rfl⟩ := qc_some5 h
      exact ⟨qc_fm.rf _, qc_iconst (qc_at qkX9_isBlank 6 rfl) <| qc_goto (qc_at qkX9_isBlank 7 rfl) <| qc_zret (qc_at qkX9_isBlank 9 rfl) rfl (Or.inr rfl) (Nat.le_refl _) (Nat.le_refl _) ⟨rfl, rfl, rfl⟩⟩
def fX9_isFigure (w : qcW) (I : qTI) (L : qTL) (D : qTD) (R : qTR) (x0 : Int32) : qcO Bool :=
  (if x0 < (48 : Int32) then (some (false, I, L, D, R)) else (if (57 : Int32) < x0 then (some (false, I, L, D, R)) else (some (true, I, L, D, R))))
set_option maxRecDepth 100000 in
set_option maxHeartbeats 4000000 in
theorem tX9_isFigure {w : qcW} {I : qTI} {L : qTL} {D : qTD} {R : qTR} {x0 : Int32} {r : Bool} {I' : qTI} {L' : qTL} {D' : qTD} {R' : qTR} (hn : qcNF ≤ w.1) (hR : qc_FR R) (h : fX9_isFigure w I L D R x0 = some (r, I', L', D', R')) : qc_fm qcSX (I, L, D, R) (I', L', D', R') ∧ qc_V (0) 0 0 qmX9_isFigure [.int x0] w (I, L, D, R) (qc_eq (some (.int (qc_b r))) w (I', L', D', R')) := by
  unfold fX9_isFigure at h
  refine And.imp_right (fun hx => qc_V.of rfl rfl (Nat.le_of_ble_eq_true rfl) (lv := [(0, .int x0)]) rfl hx) ?_
  refine And.imp_right (fun hx => qc_iload_n (qc_at qkX9_isFigure 0 rfl) rfl <| qc_bipush (qc_at qkX9_isFigure 1 rfl) <| hx) ?_
  refine qc_andC (qc_icmp_lt (qc_at qkX9_isFigure 2 rfl)) (fun u1 => ?_) (fun u1 => ?_)
  · replace h := qc_jp u1 h
    obtain ⟨rfl, rfl, rfl, rfl, rfl⟩ := qc_some5 h
    exact ⟨qc_fm.rf _, qc_iconst (qc_at qkX9_isFigure 8 rfl) <| qc_zret (qc_at qkX9_isFigure 9 rfl) rfl (Or.inl rfl) (Nat.le_refl _) (Nat.le_refl _) ⟨rfl, rfl, rfl⟩⟩
  · replace h := qc_jn u1 h
    refine And.imp_right (fun hx => qc_iload_n (qc_at qkX9_isFigure 3 rfl) rfl <| qc_bipush (qc_at qkX9_isFigure 4 rfl) <| hx) ?_
    refine qc_andC (qc_icmp_gt (qc_at qkX9_isFigure 5 rfl)) (fun u2 => ?_) (fun u2 => ?_)
    · replace h := qc_jp u2 h
      obtain ⟨rfl, rfl, rfl, rfl, rfl⟩ := qc_some5 h
      exact ⟨qc_fm.rf _, qc_iconst (qc_at qkX9_isFigure 8 rfl) <| qc_zret (qc_at qkX9_isFigure 9 rfl) rfl (Or.inl rfl) (Nat.le_refl _) (Nat.le_refl _) ⟨rfl, rfl, rfl⟩⟩
    · replace h := qc_jn u2 h
      obtain ⟨rfl, rfl, rfl, rfl, rfl⟩ := qc_some5 h
      exact ⟨qc_fm.rf _, qc_iconst (qc_at qkX9_isFigure 6 rfl) <| qc_goto (qc_at qkX9_isFigure 7 rfl) <| qc_zret (qc_at qkX9_isFigure 9 rfl) rfl (Or.inr rfl) (Nat.le_refl _) (Nat.le_refl _) ⟨rfl, rfl, rfl⟩⟩
def fX9_isLetter (w : qcW) (I : qTI) (L : qTL) (D : qTD) (R : qTR) (x0 : Int32) : qcO Bool :=
  (if x0 < (97 : Int32) then (some (false, I, L, D, R)) else (if (122 : Int32) < x0 then (some (false, I, L, D, R)) else (some (true, I, L, D, R))))
set_option maxRecDepth 100000 in
set_option maxHeartbeats 4000000 in
theorem tX9_isLetter {w : qcW} {I : qTI} {L : qTL} {D : qTD} {R : qTR} {x0 : Int32} {r : Bool} {I' : qTI} {L' : qTL} {D' : qTD} {R' : qTR} (hn : qcNF ≤ w.1) (hR : qc_FR R) (h : fX9_isLetter w I L D R x0 = some (r, I', L', D', R')) : qc_fm qcSX (I, L, D, R) (I', L', D', R') ∧ qc_V (0) 0 0 qmX9_isLetter [.int x0] w (I, L, D, R) (qc_eq (some (.int (qc_b r))) w (I', L', D', R')) := by
  unfold fX9_isLetter at h
  refine And.imp_right (fun hx => qc_V.of rfl rfl (Nat.le_of_ble_eq_true rfl) (lv := [(0, .int x0)]) rfl hx) ?_
  refine And.imp_right (fun hx => qc_iload_n (qc_at qkX9_isLetter 0 rfl) rfl <| qc_bipush (qc_at qkX9_isLetter 1 rfl) <| hx) ?_
  refine qc_andC (qc_icmp_lt (qc_at qkX9_isLetter 2 rfl)) (fun u1 => ?_) (fun u1 => ?_)
  · replace h := qc_jp u1 h
    obtain ⟨rfl, rfl, rfl, rfl, rfl⟩ := qc_some5 h
    exact ⟨qc_fm.rf _, qc_iconst (qc_at qkX9_isLetter 8 rfl) <| qc_zret (qc_at qkX9_isLetter 9 rfl) rfl (Or.inl rfl) (Nat.le_refl _) (Nat.le_refl _) ⟨rfl, rfl, rfl⟩⟩
  · replace h := qc_jn u1 h
    refine And.imp_right (fun hx => qc_iload_n (qc_at qkX9_isLetter 3 rfl) rfl <| qc_bipush (qc_at qkX9_isLetter 4 rfl) <| hx) ?_
    refine qc_andC (qc_icmp_gt (qc_at qkX9_isLetter 5 rfl)) (fun u2 => ?_) (fun u2 => ?_)
    · replace h := qc_jp u2 h
      obtain ⟨rfl, rfl, rfl, rfl, rfl⟩ := qc_some5 h
      exact ⟨qc_fm.rf _, qc_iconst (qc_at qkX9_isLetter 8 rfl) <| qc_zret (qc_at qkX9_isLetter 9 rfl) rfl (Or.inl rfl) (Nat.le_refl _) (Nat.le_refl _) ⟨rfl, rfl, rfl⟩⟩
    · replace h := qc_jn u2 h
      obtain ⟨rfl, rfl, rfl, rfl, rfl⟩ := qc_some5 h
      exact ⟨qc_fm.rf _, qc_iconst (qc_at qkX9_isLetter 6 rfl) <| qc_goto (qc_at qkX9_isLetter 7 rfl) <| qc_zret (qc_at qkX9_isLetter 9 rfl) rfl (Or.inr rfl) (Nat.le_refl _) (Nat.le_refl _) ⟨rfl, rfl, rfl⟩⟩
def fX9_refuse (w : qcW) (I : qTI) (L : qTL) (D : qTD) (R : qTR) (x1 : Int32) (x2 : Int32) : qcO Unit :=
  (if (I 268 6) = 0 then (some ((), (qc_u (qc_u I 268 6 x1) 268 7 x2), L, D, (qc_u R 268 1 4))) else (some ((), I, L, D, R)))
set_option maxRecDepth 100000 in
set_option maxHeartbeats 4000000 in
theorem tX9_refuse {w : qcW} {I : qTI} {L : qTL} {D : qTD} {R : qTR} {x1 : Int32} {x2 : Int32} {r : Unit} {I' : qTI} {L' : qTL} {D' : qTD} {R' : qTR} (hn : qcNF ≤ w.1) (hR : qc_FR R) (h : fX9_refuse w I L D R x1 x2 = some (r, I', L', D', R')) : qc_fm qcSX (I, L, D, R) (I', L', D', R') ∧ qc_V (0) 0 0 qmX9_refuse [.ref 268, .int x1, .int x2] w (I, L, D, R) (qc_eq none w (I', L', D', R')) := by
  unfold fX9_refuse at h
  refine And.imp_right (fun hx => qc_V.of rfl rfl (Nat.le_of_ble_eq_true rfl) (lv := [(0, .ref 268), (1, .int x1), (2, .int x2)]) rfl hx) ?_
  refine And.imp_right (fun hx => qc_aload_n (qc_at qkX9_refuse 0 rfl) rfl <| qc_gI (qc_at qkX9_refuse 1 rfl) hn rfl <| hx) ?_
  refine qc_andN (qc_if_ne (qc_at qkX9_refuse 2 rfl)) (fun u1 => ?_) (fun u1 => ?_)
  · replace h := qc_jn u1 h
    obtain ⟨rfl, rfl, rfl, rfl, rfl⟩ := qc_some5 h
    exact ⟨qc_fm.rf _, qc_vret (qc_at qkX9_refuse 12 rfl) rfl (Nat.le_refl _) (Nat.le_refl _) (qc_eq.rf _ _ _)⟩
  · replace h := qc_jp u1 h
    refine And.imp_right (fun hx => qc_aload_n (qc_at qkX9_refuse 3 rfl) rfl <| qc_iload_n (qc_at qkX9_refuse 4 rfl) rfl <| hx) (qd_pI (qc_at qkX9_refuse 5 rfl) hn rfl rfl ?_)
    refine And.imp_right (fun hx => qc_aload_n (qc_at qkX9_refuse 6 rfl) rfl <| qc_iload_n (qc_at qkX9_refuse 7 rfl) rfl <| hx) (qd_pI (qc_at qkX9_refuse 8 rfl) hn rfl rfl ?_)
    refine And.imp_right (fun hx => qc_aload_n (qc_at qkX9_refuse 9 rfl) rfl <| qc_gS (qc_at qkX9_refuse 10 rfl) rfl <| hx) (qd_pR (qc_at qkX9_refuse 11 rfl) hn rfl rfl rfl rfl ?_)
    obtain ⟨rfl, rfl, rfl, rfl, rfl⟩ := qc_some5 h
    exact ⟨qc_fm.rf _, qc_vret (qc_at qkX9_refuse 12 rfl) rfl (Nat.le_refl _) (Nat.le_refl _) (qc_eq.rf _ _ _)⟩
def fX9_readColumn (w : qcW) (I : qTI) (L : qTL) (D : qTD) (R : qTR) : qcO Unit :=
  (qc_bd (fX10_at w I L D R ((I 268 2) + (1 : Int32))) fun r1 I1 L1 D1 R1 => qc_bd (fX9_isFigure w I1 L1 D1 R1 r1) fun r2 I2 L2 D2 R2 => if r2 = true then (some ((), (qc_u (qc_u I2 268 4 (r1 - (48 : Int32))) 268 3 (((qc_u I2 268 4 (r1 - (48 : Int32))) 268 2) + (2 : Int32))), L2, D2, (qc_u R2 268 1 3))) else (qc_bd (fX9_refuse w I2 L2 D2 R2 (1 : Int32) (I2 268 2)) fun r4 I4 L4 D4 R4 => some ((), I4, L4, D4, R4)))
set_option maxRecDepth 100000 in
set_option maxHeartbeats 4000000 in
theorem tX9_readColumn {w : qcW} {I : qTI} {L : qTL} {D : qTD} {R : qTR} {r : Unit} {I' : qTI} {L' : qTL} {D' : qTD} {R' : qTR} (hn : qcNF ≤ w.1) (hR : qc_FR R) (h : fX9_readColumn w I L D R = some (r, I', L', D', R')) : qc_fm qcSX (I, L, D, R) (I', L', D', R') ∧ qc_V (1) 0 0 qmX9_readColumn [.ref 268] w (I, L, D, R) (qc_eq none w (I', L', D', R')) := by
  unfold fX9_readColumn at h
  refine And.imp_right (fun hx => qc_V.of rfl rfl (Nat.le_of_ble_eq_true rfl) (lv := [(0, .ref 268)]) rfl hx) ?_
  refine And.imp_right (fun hx => qc_aload_n (qc_at qkX9_readColumn 0 rfl) rfl <| qc_gR (qc_at qkX9_readColumn 1 rfl) hn rfl (qfr_268_0 hR) rfl <| qc_aload_n (qc_at qkX9_readColumn 2 rfl) rfl <| qc_gI (qc_at qkX9_readColumn 3 rfl) hn rfl <| qc_iconst (qc_at qkX9_readColumn 4 rfl) <| qc_iadd (qc_at qkX9_readColumn 5 rfl) <| hx) ?_
  obtain ⟨r1, I1, L1, D1, R1, e1, h⟩ := qc_bd_of h
  have c1 := (tX10_at hn hR e1)
  refine qd_cVv (ci := 8) (a0 := 265) (qc_at qkX9_readColumn 6 rfl) ql_9_42 qfX10_at (qc_kf hn rfl) rfl c1 rfl rfl (Nat.le_of_ble_eq_true rfl) (qc_rml (by decide) (by decide)) ⟨Nat.zero_le _, Nat.zero_le _⟩ ?_
  refine And.imp_right (fun hx => qc_istore_n (lv' := [(1, _), (0, _)]) (qc_at qkX9_readColumn 7 rfl) rfl rfl <| qc_iload_n (qc_at qkX9_readColumn 8 rfl) rfl <| hx) ?_
  obtain ⟨r2, I2, L2, D2, R2, e2, h⟩ := qc_bd_of h
  have c2 := (tX9_isFigure hn (c1.1.1 hR) e2)
  refine qd_cSv (qc_at qkX9_readColumn 9 rfl) ql_9_59 qfX9_isFigure c2 rfl rfl (Nat.le_of_ble_eq_true rfl) (qc_rml (by decide) (by decide)) ⟨Nat.zero_le _, Nat.zero_le _⟩ ?_
  refine qc_andBn (qc_ifB_ne (qc_at qkX9_readColumn 10 rfl)) (fun u3 => ?_) (fun u3 => ?_)
  · replace h := qc_jt u3 h
    refine And.imp_right (fun hx => qc_aload_n (qc_at qkX9_readColumn 17 rfl) rfl <| qc_gS (qc_at qkX9_readColumn 18 rfl) rfl <| hx) (qd_pR (qc_at qkX9_readColumn 19 rfl) hn rfl rfl rfl rfl ?_)
    refine And.imp_right (fun hx => qc_aload_n (qc_at qkX9_readColumn 20 rfl) rfl <| qc_iload_n (qc_at qkX9_readColumn 21 rfl) rfl <| qc_bipush (qc_at qkX9_readColumn 22 rfl) <| qc_isub (qc_at qkX9_readColumn 23 rfl) <| hx) (qd_pI (qc_at qkX9_readColumn 24 rfl) hn rfl rfl ?_)
    refine And.imp_right (fun hx => qc_aload_n (qc_at qkX9_readColumn 25 rfl) rfl <| qc_aload_n (qc_at qkX9_readColumn 26 rfl) rfl <| qc_gI (qc_at qkX9_readColumn 27 rfl) hn rfl <| qc_iconst (qc_at qkX9_readColumn 28 rfl) <| qc_iadd (qc_at qkX9_readColumn 29 rfl) <| hx) (qd_pI (qc_at qkX9_readColumn 30 rfl) hn rfl rfl ?_)
    obtain ⟨rfl, rfl, rfl, rfl, rfl⟩ := qc_some5 h
    exact ⟨qc_fm.rf _, qc_vret (qc_at qkX9_readColumn 31 rfl) rfl (Nat.le_refl _) (Nat.le_refl _) (qc_eq.rf _ _ _)⟩
  · replace h := qc_jf u3 h
    refine And.imp_right (fun hx => qc_aload_n (qc_at qkX9_readColumn 11 rfl) rfl <| qc_iconst (qc_at qkX9_readColumn 12 rfl) <| qc_aload_n (qc_at qkX9_readColumn 13 rfl) rfl <| qc_gI (qc_at qkX9_readColumn 14 rfl) hn rfl <| hx) ?_
    obtain ⟨r4, I4, L4, D4, R4, e4, h⟩ := qc_bd_of h
    have c4 := (tX9_refuse hn (c2.1.1 (c1.1.1 hR)) e4)
    refine qd_cVn (ci := 7) (a0 := 268) (qc_at qkX9_readColumn 15 rfl) ql_9_89 qfX9_refuse (qc_kf hn rfl) rfl c4 rfl rfl (Nat.le_of_ble_eq_true rfl) (qc_rml (by decide) (by decide)) ⟨Nat.zero_le _, Nat.zero_le _⟩ ?_
    obtain ⟨rfl, rfl, rfl, rfl, rfl⟩ := qc_some5 h
    exact ⟨qc_fm.rf _, qc_vret (qc_at qkX9_readColumn 16 rfl) rfl (Nat.le_refl _) (Nat.le_refl _) (qc_eq.rf _ _ _)⟩
def fX9_readFigures_b130 (w : qcW) (k13 : qTI × qTL × qTD × qTR × Int64 × Int32 × Int32 × Int64 × Int32 → qcO Unit) (I : qTI) (L : qTL) (D : qTD) (R : qTR) (x1 : Int64) (x3 : Int32) (x4 : Int32) (x5 : Int64) (x7 : Int32) : qcO Unit :=
  (k13 ((qc_u I 268 3 ((I 268 3) + (1 : Int32))), L, D, R, x1, x3, x4, x5, (x7 + (1))))
set_option maxRecDepth 100000 in
set_option maxHeartbeats 4000000 in
theorem tX9_readFigures_b130 {w : qcW} {I : qTI} {L : qTL} {D : qTD} {R : qTR} {k13 : qTI × qTL × qTD × qTR × Int64 × Int32 × Int32 × Int64 × Int32 → qcO Unit} {x1 : Int64} {x3 : Int32} {x4 : Int32} {x5 : Int64} {x7 : Int32} {r : Unit} {I' : qTI} {L' : qTL} {D' : qTD} {R' : qTR} (hn : qcNF ≤ w.1) (hR : qc_FR R) (hk13 : ∀ {I : qTI} {L : qTL} {D : qTD} {R : qTR} {x1 : Int64} {x3 : Int32} {x4 : Int32} {x5 : Int64} {x7 : Int32} {r : Unit} {I' : qTI} {L' : qTL} {D' : qTD} {R' : qTR}, qc_FR R → k13 (I, L, D, R, x1, x3, x4, x5, x7) = some (r, I', L', D', R') → qc_fm qcSX (I, L, D, R) (I', L', D', R') ∧ qc_X (qc_rm (1) 0 0) qmX9_readFigures (qc_QM 0 0 (qc_eq none w (I', L', D', R'))) 0 0 w (13, [(0, .ref 268), (1, .long x1), (3, .int x3), (4, .int x4), (5, .long x5), (7, .int x7)], [], I, L, D, R)) (h : fX9_readFigures_b130 w k13 I L D R x1 x3 x4 x5 x7 = some (r, I', L', D', R')) : qc_fm qcSX (I, L, D, R) (I', L', D', R') ∧ qc_X (qc_rm (1) 0 0) qmX9_readFigures (qc_QM 0 0 (qc_eq none w (I', L', D', R'))) 0 0 w (130, [(0, .ref 268), (1, .long x1), (3, .int x3), (4, .int x4), (5, .long x5), (7, .int x7)], [], I, L, D, R) := by
  unfold fX9_readFigures_b130 at h
  refine And.imp_right (fun hx => qc_aload_n (qc_at qkX9_readFigures 64 rfl) rfl <| qc_dup (qc_at qkX9_readFigures 65 rfl) rfl <| qc_gI (qc_at qkX9_readFigures 66 rfl) hn rfl <| qc_iconst (qc_at qkX9_readFigures 67 rfl) <| qc_iadd (qc_at qkX9_readFigures 68 rfl) <| hx) (qd_pI (qc_at qkX9_readFigures 69 rfl) hn rfl rfl ?_)
  exact And.imp_right (fun hx => qc_iinc (lv' := [(7, _), (0, _), (1, _), (3, _), (4, _), (5, _)]) (qc_at qkX9_readFigures 70 rfl) rfl rfl rfl <| qc_goto (qc_at qkX9_readFigures 71 rfl) <| qc_sub [1, 2, 3, 4, 5, 0] rfl hx) (hk13 hR h)
def fX9_readFigures_b87 (w : qcW) (k13 : qTI × qTL × qTD × qTR × Int64 × Int32 × Int32 × Int64 × Int32 → qcO Unit) (I : qTI) (L : qTL) (D : qTD) (R : qTR) (x1 : Int64) (x3 : Int32) (x4 : Int32) (x7 : Int32) (s0 : Int64) : qcO Unit :=
  (fX9_readFigures_b130 w k13 I L D R x1 x3 x4 s0 x7)
set_option maxRecDepth 100000 in
set_option maxHeartbeats 4000000 in
theorem tX9_readFigures_b87 {w : qcW} {I : qTI} {L : qTL} {D : qTD} {R : qTR} {k13 : qTI × qTL × qTD × qTR × Int64 × Int32 × Int32 × Int64 × Int32 → qcO Unit} {x1 : Int64} {x3 : Int32} {x4 : Int32} {x7 : Int32} {s0 : Int64} {r : Unit} {I' : qTI} {L' : qTL} {D' : qTD} {R' : qTR} (hn : qcNF ≤ w.1) (hR : qc_FR R) (hk13 : ∀ {I : qTI} {L : qTL} {D : qTD} {R : qTR} {x1 : Int64} {x3 : Int32} {x4 : Int32} {x5 : Int64} {x7 : Int32} {r : Unit} {I' : qTI} {L' : qTL} {D' : qTD} {R' : qTR}, qc_FR R → k13 (I, L, D, R, x1, x3, x4, x5, x7) = some (r, I', L', D', R') → qc_fm qcSX (I, L, D, R) (I', L', D', R') ∧ qc_X (qc_rm (1) 0 0) qmX9_readFigures (qc_QM 0 0 (qc_eq none w (I', L', D', R'))) 0 0 w (13, [(0, .ref 268), (1, .long x1), (3, .int x3), (4, .int x4), (5, .long x5), (7, .int x7)], [], I, L, D, R)) (h : fX9_readFigures_b87 w k13 I L D R x1 x3 x4 x7 s0 = some (r, I', L', D', R')) : qc_fm qcSX (I, L, D, R) (I', L', D', R') ∧ qc_X (qc_rm (1) 0 0) qmX9_readFigures (qc_QM 0 0 (qc_eq none w (I', L', D', R'))) 0 0 w (87, [(0, .ref 268), (1, .long x1), (3, .int x3), (4, .int x4), (7, .int x7)], [.long s0], I, L, D, R) := by
  unfold fX9_readFigures_b87 at h
  exact And.imp_right (fun hx => qc_lstore (lv' := [(5, _), (0, _), (1, _), (3, _), (4, _), (7, _)]) (qc_at qkX9_readFigures 44 rfl) rfl rfl <| qc_goto (qc_at qkX9_readFigures 45 rfl) <| qc_sub [1, 2, 3, 4, 0, 5] rfl hx) (tX9_readFigures_b130 hn hR hk13 h)
def fX9_readFigures_b169 (w : qcW) (I : qTI) (L : qTL) (D : qTD) (R : qTR) : qcO Unit :=
  (qc_bd (fX9_refuse w I L D R (1 : Int32) (I 268 2)) fun r1 I1 L1 D1 R1 => some ((), I1, L1, D1, R1))
set_option maxRecDepth 100000 in
set_option maxHeartbeats 4000000 in
theorem tX9_readFigures_b169 {w : qcW} {I : qTI} {L : qTL} {D : qTD} {R : qTR} {r : Unit} {I' : qTI} {L' : qTL} {D' : qTD} {R' : qTR} (hn : qcNF ≤ w.1) (hR : qc_FR R) (h : fX9_readFigures_b169 w I L D R = some (r, I', L', D', R')) : qc_fm qcSX (I, L, D, R) (I', L', D', R') ∧ qc_X (qc_rm (1) 0 0) qmX9_readFigures (qc_QM 0 0 (qc_eq none w (I', L', D', R'))) 0 0 w (169, [(0, .ref 268)], [], I, L, D, R) := by
  unfold fX9_readFigures_b169 at h
  refine And.imp_right (fun hx => qc_aload_n (qc_at qkX9_readFigures 83 rfl) rfl <| qc_iconst (qc_at qkX9_readFigures 84 rfl) <| qc_aload_n (qc_at qkX9_readFigures 85 rfl) rfl <| qc_gI (qc_at qkX9_readFigures 86 rfl) hn rfl <| hx) ?_
  obtain ⟨r1, I1, L1, D1, R1, e1, h⟩ := qc_bd_of h
  have c1 := (tX9_refuse hn hR e1)
  refine qd_cVn (ci := 7) (a0 := 268) (qc_at qkX9_readFigures 87 rfl) ql_9_89 qfX9_refuse (qc_kf hn rfl) rfl c1 rfl rfl (Nat.le_of_ble_eq_true rfl) (qc_rml (by decide) (by decide)) ⟨Nat.zero_le _, Nat.zero_le _⟩ ?_
  obtain ⟨rfl, rfl, rfl, rfl, rfl⟩ := qc_some5 h
  exact ⟨qc_fm.rf _, qc_vret (qc_at qkX9_readFigures 88 rfl) rfl (Nat.le_refl _) (Nat.le_refl _) (qc_eq.rf _ _ _)⟩
def fX9_readFigures_b195 (w : qcW) (I : qTI) (L : qTL) (D : qTD) (R : qTR) (x1 : Int64) (x5 : Int64) (s0 : Nat) : qcO Unit :=
  (qc_gd (qc_l62 s0) <| (qc_gd (qc_n64 (FP.ddiv (FP.l2d x1) (FP.l2d x5))) <| some ((), (qc_u I 268 4 (Int64.toInt32 x1)), L, (qc_u D 268 5 (FP.ddiv (FP.l2d x1) (FP.l2d x5))), (qc_u R 268 1 s0))))
set_option maxRecDepth 100000 in
set_option maxHeartbeats 4000000 in
theorem tX9_readFigures_b195 {w : qcW} {I : qTI} {L : qTL} {D : qTD} {R : qTR} {x1 : Int64} {x5 : Int64} {s0 : Nat} {r : Unit} {I' : qTI} {L' : qTL} {D' : qTD} {R' : qTR} (hn : qcNF ≤ w.1) (hR : qc_FR R) (h : fX9_readFigures_b195 w I L D R x1 x5 s0 = some (r, I', L', D', R')) : qc_fm qcSX (I, L, D, R) (I', L', D', R') ∧ qc_X (qc_rm (1) 0 0) qmX9_readFigures (qc_QM 0 0 (qc_eq none w (I', L', D', R'))) 0 0 w (195, [(0, .ref 268), (1, .long x1), (5, .long x5)], [.ref s0, .ref 268], I, L, D, R) := by
  unfold fX9_readFigures_b195 at h
  obtain ⟨g2, h⟩ := qc_gd_of h
  replace g2 := qc_l62_of g2
  refine qd_pR (qc_at qkX9_readFigures 96 rfl) hn rfl (qc_ne62 g2) rfl rfl ?_
  refine And.imp_right (fun hx => qc_aload_n (qc_at qkX9_readFigures 97 rfl) rfl <| qc_lload_n (qc_at qkX9_readFigures 98 rfl) rfl <| qc_l2i (qc_at qkX9_readFigures 99 rfl) <| hx) (qd_pI (qc_at qkX9_readFigures 100 rfl) hn rfl rfl ?_)
  refine And.imp_right (fun hx => qc_aload_n (qc_at qkX9_readFigures 101 rfl) rfl <| qc_lload_n (qc_at qkX9_readFigures 102 rfl) rfl <| qc_l2d (qc_at qkX9_readFigures 103 rfl) <| qc_lload (qc_at qkX9_readFigures 104 rfl) rfl <| qc_l2d (qc_at qkX9_readFigures 105 rfl) <| hx) ?_
  obtain ⟨g3, h⟩ := qc_gd_of h
  replace g3 := qc_n64_of g3
  refine And.imp_right (fun hx => qc_ddiv (qc_at qkX9_readFigures 106 rfl) g3 <| hx) (qd_pD (qc_at qkX9_readFigures 107 rfl) hn rfl rfl ?_)
  obtain ⟨rfl, rfl, rfl, rfl, rfl⟩ := qc_some5 h
  exact ⟨qc_fm.rf _, qc_vret (qc_at qkX9_readFigures 108 rfl) rfl (Nat.le_refl _) (Nat.le_refl _) (qc_eq.rf _ _ _)⟩
def fX9_readFigures_b179 (w : qcW) (I : qTI) (L : qTL) (D : qTD) (R : qTR) (x1 : Int64) (x4 : Int32) (x5 : Int64) : qcO Unit :=
  (if x4 = (-1 : Int32) then (fX9_readFigures_b195 w I L D R x1 x5 1) else (fX9_readFigures_b195 w I L D R x1 x5 2))
set_option maxRecDepth 100000 in
set_option maxHeartbeats 4000000 in
theorem tX9_readFigures_b179 {w : qcW} {I : qTI} {L : qTL} {D : qTD} {R : qTR} {x1 : Int64} {x4 : Int32} {x5 : Int64} {r : Unit} {I' : qTI} {L' : qTL} {D' : qTD} {R' : qTR} (hn : qcNF ≤ w.1) (hR : qc_FR R) (h : fX9_readFigures_b179 w I L D R x1 x4 x5 = some (r, I', L', D', R')) : qc_fm qcSX (I, L, D, R) (I', L', D', R') ∧ qc_X (qc_rm (1) 0 0) qmX9_readFigures (qc_QM 0 0 (qc_eq none w (I', L', D', R'))) 0 0 w (179, [(0, .ref 268), (1, .long x1), (4, .int x4), (5, .long x5)], [], I, L, D, R) := by
  unfold fX9_readFigures_b179 at h
  refine And.imp_right (fun hx => qc_aload_n (qc_at qkX9_readFigures 89 rfl) rfl <| qc_iload (qc_at qkX9_readFigures 90 rfl) rfl <| qc_iconst (qc_at qkX9_readFigures 91 rfl) <| hx) ?_
  refine qc_andN (qc_icmp_ne (qc_at qkX9_readFigures 92 rfl)) (fun u4 => ?_) (fun u4 => ?_)
  · replace h := qc_jn u4 h
    exact And.imp_right (fun hx => qc_gS (qc_at qkX9_readFigures 95 rfl) rfl <| qc_sub [0, 1, 3] rfl hx) (tX9_readFigures_b195 hn hR h)
  · replace h := qc_jp u4 h
    exact And.imp_right (fun hx => qc_gS (qc_at qkX9_readFigures 93 rfl) rfl <| qc_goto (qc_at qkX9_readFigures 94 rfl) <| qc_sub [0, 1, 3] rfl hx) (tX9_readFigures_b195 hn hR h)
def fX9_readFigures_b146 (w : qcW) (I : qTI) (L : qTL) (D : qTD) (R : qTR) (x1 : Int64) (x3 : Int32) (x4 : Int32) (x5 : Int64) : qcO Unit :=
  (if x4 = (-1 : Int32) then (if (lg_cmp x1 (2147483648 : Int64)) < 0 then (fX9_readFigures_b179 w I L D R x1 x4 x5) else (fX9_readFigures_b169 w I L D R)) else (if x3 ≤ (9 : Int32) then (fX9_readFigures_b179 w I L D R x1 x4 x5) else (fX9_readFigures_b169 w I L D R)))
set_option maxRecDepth 100000 in
set_option maxHeartbeats 4000000 in
theorem tX9_readFigures_b146 {w : qcW} {I : qTI} {L : qTL} {D : qTD} {R : qTR} {x1 : Int64} {x3 : Int32} {x4 : Int32} {x5 : Int64} {r : Unit} {I' : qTI} {L' : qTL} {D' : qTD} {R' : qTR} (hn : qcNF ≤ w.1) (hR : qc_FR R) (h : fX9_readFigures_b146 w I L D R x1 x3 x4 x5 = some (r, I', L', D', R')) : qc_fm qcSX (I, L, D, R) (I', L', D', R') ∧ qc_X (qc_rm (1) 0 0) qmX9_readFigures (qc_QM 0 0 (qc_eq none w (I', L', D', R'))) 0 0 w (146, [(0, .ref 268), (1, .long x1), (3, .int x3), (4, .int x4), (5, .long x5)], [], I, L, D, R) := by
  unfold fX9_readFigures_b146 at h
  refine And.imp_right (fun hx => qc_iload (qc_at qkX9_readFigures 72 rfl) rfl <| qc_iconst (qc_at qkX9_readFigures 73 rfl) <| hx) ?_
  refine qc_andN (qc_icmp_ne (qc_at qkX9_readFigures 74 rfl)) (fun u5 => ?_) (fun u5 => ?_)
  · replace h := qc_jn u5 h
    refine And.imp_right (fun hx => qc_iload_n (qc_at qkX9_readFigures 80 rfl) rfl <| qc_bipush (qc_at qkX9_readFigures 81 rfl) <| hx) ?_
    refine qc_andC (qc_icmp_le (qc_at qkX9_readFigures 82 rfl)) (fun u6 => ?_) (fun u6 => ?_)
    · replace h := qc_jp u6 h
      exact And.imp_right (fun hx => qc_sub [0, 1, 3, 4] rfl hx) (tX9_readFigures_b179 hn hR h)
    · replace h := qc_jn u6 h
      exact And.imp_right (fun hx => qc_sub [0] rfl hx) (tX9_readFigures_b169 hn hR h)
  · replace h := qc_jp u5 h
    refine And.imp_right (fun hx => qc_lload_n (qc_at qkX9_readFigures 75 rfl) rfl <| qc_ldc2l (qc_at qkX9_readFigures 76 rfl) <| qc_lcmp (qc_at qkX9_readFigures 77 rfl) <| hx) ?_
    refine qc_andC (qc_if_lt (qc_at qkX9_readFigures 78 rfl)) (fun u7 => ?_) (fun u7 => ?_)
    · replace h := qc_jp u7 h
      exact And.imp_right (fun hx => qc_sub [0, 1, 3, 4] rfl hx) (tX9_readFigures_b179 hn hR h)
    · replace h := qc_jn u7 h
      exact And.imp_right (fun hx => qc_goto (qc_at qkX9_readFigures 79 rfl) <| qc_sub [0] rfl hx) (tX9_readFigures_b169 hn hR h)
def fX9_readFigures_b13 (w : qcW) (k13 : qTI × qTL × qTD × qTR × Int64 × Int32 × Int32 × Int64 × Int32 → qcO Unit) (I : qTI) (L : qTL) (D : qTD) (R : qTR) (x1 : Int64) (x3 : Int32) (x4 : Int32) (x5 : Int64) (x7 : Int32) : qcO Unit :=
  (if (400 : Int32) ≤ x7 then (fX9_readFigures_b146 w I L D R x1 x3 x4 x5) else (qc_bd (fX10_at w I L D R (I 268 3)) fun r9 I9 L9 D9 R9 => qc_bd (fX9_isFigure w I9 L9 D9 R9 r9) fun r10 I10 L10 D10 R10 => if r10 = true then (qc_bd (fJ9_min_f86c9 w I10 L10 D10 R10 (((x1 * (10 : Int64)) + (Int32.toInt64 r9)) - (48 : Int64)) (2147483648 : Int64)) fun r17 I17 L17 D17 R17 => if x4 = (-1 : Int32) then (fX9_readFigures_b87 w k13 I17 L17 D17 R17 r17 (x3 + (1)) x4 x7 (1 : Int64)) else (qc_bd (fJ9_min_f86c9 w I17 L17 D17 R17 (x5 * (10 : Int64)) (2147483648 : Int64)) fun r19 I19 L19 D19 R19 => fX9_readFigures_b87 w k13 I19 L19 D19 R19 r17 (x3 + (1)) x4 x7 r19)) else (if r9 = (46 : Int32) then (if x4 = (-1 : Int32) then (qc_bd (fX10_at w I10 L10 D10 R10 ((I10 268 3) + (1 : Int32))) fun r14 I14 L14 D14 R14 => qc_bd (fX9_isFigure w I14 L14 D14 R14 r14) fun r15 I15 L15 D15 R15 => if r15 = true then (fX9_readFigures_b130 w k13 I15 L15 D15 R15 x1 x3 (I15 268 3) x5 x7) else (fX9_readFigures_b146 w I15 L15 D15 R15 x1 x3 x4 x5)) else (fX9_readFigures_b146 w I10 L10 D10 R10 x1 x3 x4 x5)) else (fX9_readFigures_b146 w I10 L10 D10 R10 x1 x3 x4 x5))))
set_option maxRecDepth 100000 in
set_option maxHeartbeats 4000000 in
theorem tX9_readFigures_b13 {w : qcW} {I : qTI} {L : qTL} {D : qTD} {R : qTR} {k13 : qTI × qTL × qTD × qTR × Int64 × Int32 × Int32 × Int64 × Int32 → qcO Unit} {x1 : Int64} {x3 : Int32} {x4 : Int32} {x5 : Int64} {x7 : Int32} {r : Unit} {I' : qTI} {L' : qTL} {D' : qTD} {R' : qTR} (hn : qcNF ≤ w.1) (hR : qc_FR R) (hk13 : ∀ {I : qTI} {L : qTL} {D : qTD} {R : qTR} {x1 : Int64} {x3 : Int32} {x4 : Int32} {x5 : Int64} {x7 : Int32} {r : Unit} {I' : qTI} {L' : qTL} {D' : qTD} {R' : qTR}, qc_FR R → k13 (I, L, D, R, x1, x3, x4, x5, x7) = some (r, I', L', D', R') → qc_fm qcSX (I, L, D, R) (I', L', D', R') ∧ qc_X (qc_rm (1) 0 0) qmX9_readFigures (qc_QM 0 0 (qc_eq none w (I', L', D', R'))) 0 0 w (13, [(0, .ref 268), (1, .long x1), (3, .int x3), (4, .int x4), (5, .long x5), (7, .int x7)], [], I, L, D, R)) (h : fX9_readFigures_b13 w k13 I L D R x1 x3 x4 x5 x7 = some (r, I', L', D', R')) : qc_fm qcSX (I, L, D, R) (I', L', D', R') ∧ qc_X (qc_rm (1) 0 0) qmX9_readFigures (qc_QM 0 0 (qc_eq none w (I', L', D', R'))) 0 0 w (13, [(0, .ref 268), (1, .long x1), (3, .int x3), (4, .int x4), (5, .long x5), (7, .int x7)], [], I, L, D, R) := by
  unfold fX9_readFigures_b13 at h
  refine And.imp_right (fun hx => qc_iload (qc_at qkX9_readFigures 10 rfl) rfl <| qc_sipush (qc_at qkX9_readFigures 11 rfl) <| hx) ?_
  refine qc_andC (qc_icmp_ge (qc_at qkX9_readFigures 12 rfl)) (fun u8 => ?_) (fun u8 => ?_)
  · replace h := qc_jp u8 h
    exact And.imp_right (fun hx => qc_sub [0, 1, 2, 3, 4] rfl hx) (tX9_readFigures_b146 hn hR h)
  · replace h := qc_jn u8 h
    refine And.imp_right (fun hx => qc_aload_n (qc_at qkX9_readFigures 13 rfl) rfl <| qc_gR (qc_at qkX9_readFigures 14 rfl) hn rfl (qfr_268_0 hR) rfl <| qc_aload_n (qc_at qkX9_readFigures 15 rfl) rfl <| qc_gI (qc_at qkX9_readFigures 16 rfl) hn rfl <| hx) ?_
    obtain ⟨r9, I9, L9, D9, R9, e9, h⟩ := qc_bd_of h
    have c9 := (tX10_at hn hR e9)
    refine qd_cVv (ci := 8) (a0 := 265) (qc_at qkX9_readFigures 17 rfl) ql_9_42 qfX10_at (qc_kf hn rfl) rfl c9 rfl rfl (Nat.le_of_ble_eq_true rfl) (qc_rml (by decide) (by decide)) ⟨Nat.zero_le _, Nat.zero_le _⟩ ?_
    refine And.imp_right (fun hx => qc_istore (lv' := [(8, _), (0, _), (1, _), (3, _), (4, _), (5, _), (7, _)]) (qc_at qkX9_readFigures 18 rfl) rfl rfl <| qc_iload (qc_at qkX9_readFigures 19 rfl) rfl <| hx) ?_
    obtain ⟨r10, I10, L10, D10, R10, e10, h⟩ := qc_bd_of h
    have c10 := (tX9_isFigure hn (c9.1.1 hR) e10)
    refine qd_cSv (qc_at qkX9_readFigures 20 rfl) ql_9_59 qfX9_isFigure c10 rfl rfl (Nat.le_of_ble_eq_true rfl) (qc_rml (by decide) (by decide)) ⟨Nat.zero_le _, Nat.zero_le _⟩ ?_
    refine qc_andB (qc_ifB_eq (qc_at qkX9_readFigures 21 rfl)) (fun u11 => ?_) (fun u11 => ?_)
    · replace h := qc_jf u11 h
      refine And.imp_right (fun hx => qc_iload (qc_at qkX9_readFigures 46 rfl) rfl <| qc_bipush (qc_at qkX9_readFigures 47 rfl) <| hx) ?_
      refine qc_andN (qc_icmp_ne (qc_at qkX9_readFigures 48 rfl)) (fun u12 => ?_) (fun u12 => ?_)
      · replace h := qc_jn u12 h
        exact And.imp_right (fun hx => qc_sub [1, 2, 3, 4, 5] rfl hx) (tX9_readFigures_b146 hn (c10.1.1 (c9.1.1 hR)) h)
      · replace h := qc_jp u12 h
        refine And.imp_right (fun hx => qc_iload (qc_at qkX9_readFigures 49 rfl) rfl <| qc_iconst (qc_at qkX9_readFigures 50 rfl) <| hx) ?_
        refine qc_andN (qc_icmp_ne (qc_at qkX9_readFigures 51 rfl)) (fun u13 => ?_) (fun u13 => ?_)
        · replace h := qc_jn u13 h
          exact And.imp_right (fun hx => qc_sub [1, 2, 3, 4, 5] rfl hx) (tX9_readFigures_b146 hn (c10.1.1 (c9.1.1 hR)) h)
        · replace h := qc_jp u13 h
          refine And.imp_right (fun hx => qc_aload_n (qc_at qkX9_readFigures 52 rfl) rfl <| qc_gR (qc_at qkX9_readFigures 53 rfl) hn rfl (qfr_268_0 (c10.1.1 (c9.1.1 hR))) rfl <| qc_aload_n (qc_at qkX9_readFigures 54 rfl) rfl <| qc_gI (qc_at qkX9_readFigures 55 rfl) hn rfl <| qc_iconst (qc_at qkX9_readFigures 56 rfl) <| qc_iadd (qc_at qkX9_readFigures 57 rfl) <| hx) ?_
          obtain ⟨r14, I14, L14, D14, R14, e14, h⟩ := qc_bd_of h
          have c14 := (tX10_at hn (c10.1.1 (c9.1.1 hR)) e14)
          refine qd_cVv (ci := 8) (a0 := 265) (qc_at qkX9_readFigures 58 rfl) ql_9_42 qfX10_at (qc_kf hn rfl) rfl c14 rfl rfl (Nat.le_of_ble_eq_true rfl) (qc_rml (by decide) (by decide)) ⟨Nat.zero_le _, Nat.zero_le _⟩ ?_
          obtain ⟨r15, I15, L15, D15, R15, e15, h⟩ := qc_bd_of h
          have c15 := (tX9_isFigure hn (c14.1.1 (c10.1.1 (c9.1.1 hR))) e15)
          refine qd_cSv (qc_at qkX9_readFigures 59 rfl) ql_9_59 qfX9_isFigure c15 rfl rfl (Nat.le_of_ble_eq_true rfl) (qc_rml (by decide) (by decide)) ⟨Nat.zero_le _, Nat.zero_le _⟩ ?_
          refine qc_andB (qc_ifB_eq (qc_at qkX9_readFigures 60 rfl)) (fun u16 => ?_) (fun u16 => ?_)
          · replace h := qc_jf u16 h
            exact And.imp_right (fun hx => qc_sub [1, 2, 3, 4, 5] rfl hx) (tX9_readFigures_b146 hn (c15.1.1 (c14.1.1 (c10.1.1 (c9.1.1 hR)))) h)
          · replace h := qc_jt u16 h
            exact And.imp_right (fun hx => qc_aload_n (qc_at qkX9_readFigures 61 rfl) rfl <| qc_gI (qc_at qkX9_readFigures 62 rfl) hn rfl <| qc_istore (lv' := [(4, _), (8, _), (0, _), (1, _), (3, _), (5, _), (7, _)]) (qc_at qkX9_readFigures 63 rfl) rfl rfl <| qc_sub [2, 3, 4, 0, 5, 6] rfl hx) (tX9_readFigures_b130 hn (c15.1.1 (c14.1.1 (c10.1.1 (c9.1.1 hR)))) hk13 h)
    · replace h := qc_jt u11 h
      refine And.imp_right (fun hx => qc_lload_n (qc_at qkX9_readFigures 22 rfl) rfl <| qc_ldc2l (qc_at qkX9_readFigures 23 rfl) <| qc_lmul (qc_at qkX9_readFigures 24 rfl) <| qc_iload (qc_at qkX9_readFigures 25 rfl) rfl <| qc_i2l (qc_at qkX9_readFigures 26 rfl) <| qc_ladd (qc_at qkX9_readFigures 27 rfl) <| qc_ldc2l (qc_at qkX9_readFigures 28 rfl) <| qc_lsub (qc_at qkX9_readFigures 29 rfl) <| qc_ldc2l (qc_at qkX9_readFigures 30 rfl) <| hx) ?_
      obtain ⟨r17, I17, L17, D17, R17, e17, h⟩ := qc_bd_of h
      have c17 := (tJ9_min_f86c9 (sd := qcSX) hn (c10.1.1 (c9.1.1 hR)) e17)
      refine qd_cSv (qc_at qkX9_readFigures 31 rfl) ql_9_105 qfJ9_min_f86c9 c17 rfl rfl (Nat.le_of_ble_eq_true rfl) (qc_rml (by decide) (by decide)) ⟨Nat.zero_le _, Nat.zero_le _⟩ ?_
      refine And.imp_right (fun hx => qc_lstore_n (lv' := [(1, _), (8, _), (0, _), (3, _), (4, _), (5, _), (7, _)]) (qc_at qkX9_readFigures 32 rfl) rfl rfl <| qc_iinc (lv' := [(3, _), (1, _), (8, _), (0, _), (4, _), (5, _), (7, _)]) (qc_at qkX9_readFigures 33 rfl) rfl rfl rfl <| qc_iload (qc_at qkX9_readFigures 34 rfl) rfl <| qc_iconst (qc_at qkX9_readFigures 35 rfl) <| hx) ?_
      refine qc_andN (qc_icmp_ne (qc_at qkX9_readFigures 36 rfl)) (fun u18 => ?_) (fun u18 => ?_)
      · replace h := qc_jn u18 h
        refine And.imp_right (fun hx => qc_lload (qc_at qkX9_readFigures 39 rfl) rfl <| qc_ldc2l (qc_at qkX9_readFigures 40 rfl) <| qc_lmul (qc_at qkX9_readFigures 41 rfl) <| qc_ldc2l (qc_at qkX9_readFigures 42 rfl) <| hx) ?_
        obtain ⟨r19, I19, L19, D19, R19, e19, h⟩ := qc_bd_of h
        have c19 := (tJ9_min_f86c9 (sd := qcSX) hn (c17.1.1 (c10.1.1 (c9.1.1 hR))) e19)
        refine qd_cSv (qc_at qkX9_readFigures 43 rfl) ql_9_105 qfJ9_min_f86c9 c19 rfl rfl (Nat.le_of_ble_eq_true rfl) (qc_rml (by decide) (by decide)) ⟨Nat.zero_le _, Nat.zero_le _⟩ ?_
        exact And.imp_right (fun hx => qc_sub [3, 1, 0, 4, 6] rfl hx) (tX9_readFigures_b87 hn (c19.1.1 (c17.1.1 (c10.1.1 (c9.1.1 hR)))) hk13 h)
      · replace h := qc_jp u18 h
        exact And.imp_right (fun hx => qc_lconst (qc_at qkX9_readFigures 37 rfl) <| qc_goto (qc_at qkX9_readFigures 38 rfl) <| qc_sub [3, 1, 0, 4, 6] rfl hx) (tX9_readFigures_b87 hn (c17.1.1 (c10.1.1 (c9.1.1 hR))) hk13 h)
def fX9_readFigures_l13 (w : qcW) : Nat → qTI × qTL × qTD × qTR × Int64 × Int32 × Int32 × Int64 × Int32 → qcO Unit := qc_lp (fun k q => match q with | (I, L, D, R, x1, x3, x4, x5, x7) => fX9_readFigures_b13 w k I L D R x1 x3 x4 x5 x7)
set_option maxRecDepth 100000 in
set_option maxHeartbeats 4000000 in
theorem tX9_readFigures_l13 {w : qcW} (hn : qcNF ≤ w.1) : ∀ (n : Nat) {r : Unit} {I' : qTI} {L' : qTL} {D' : qTD} {R' : qTR} {I : qTI} {L : qTL} {D : qTD} {R : qTR} {x1 : Int64} {x3 : Int32} {x4 : Int32} {x5 : Int64} {x7 : Int32} (hR : qc_FR R) (h : fX9_readFigures_l13 w n (I, L, D, R, x1, x3, x4, x5, x7) = some (r, I', L', D', R')), qc_fm qcSX (I, L, D, R) (I', L', D', R') ∧ qc_X (qc_rm (1) 0 0) qmX9_readFigures (qc_QM 0 0 (qc_eq none w (I', L', D', R'))) 0 0 w (13, [(0, .ref 268), (1, .long x1), (3, .int x3), (4, .int x4), (5, .long x5), (7, .int x7)], [], I, L, D, R) := by
  intro n
  induction n with
  | zero => intro _ _ _ _ _ _ _ _ _ _ _ _ _ _ _ h; cases h
  | succ n ih => intro _ _ _ _ _ _ _ _ _ _ _ _ _ _ hR h; exact tX9_readFigures_b13 hn hR (k13 := fX9_readFigures_l13 w n) (fun hR h => ih hR h) h
def fX9_readFigures (w : qcW) (I : qTI) (L : qTL) (D : qTD) (R : qTR) : qcO Unit :=
  (fX9_readFigures_l13 w qcF (I, L, D, R, (0 : Int64), (0 : Int32), (-1 : Int32), (1 : Int64), (0 : Int32)))
set_option maxRecDepth 100000 in
set_option maxHeartbeats 4000000 in
theorem tX9_readFigures {w : qcW} {I : qTI} {L : qTL} {D : qTD} {R : qTR} {r : Unit} {I' : qTI} {L' : qTL} {D' : qTD} {R' : qTR} (hn : qcNF ≤ w.1) (hR : qc_FR R) (h : fX9_readFigures w I L D R = some (r, I', L', D', R')) : qc_fm qcSX (I, L, D, R) (I', L', D', R') ∧ qc_V (1) 0 0 qmX9_readFigures [.ref 268] w (I, L, D, R) (qc_eq none w (I', L', D', R')) := by
  unfold fX9_readFigures at h
  refine And.imp_right (fun hx => qc_V.of rfl rfl (Nat.le_of_ble_eq_true rfl) (lv := [(0, .ref 268)]) rfl hx) ?_
  exact And.imp_right (fun hx => qc_lconst (qc_at qkX9_readFigures 0 rfl) <| qc_lstore_n (lv' := [(1, _), (0, _)]) (qc_at qkX9_readFigures 1 rfl) rfl rfl <| qc_iconst (qc_at qkX9_readFigures 2 rfl) <| qc_istore_n (lv' := [(3, _), (1, _), (0, _)]) (qc_at qkX9_readFigures 3 rfl) rfl rfl <| qc_iconst (qc_at qkX9_readFigures 4 rfl) <| qc_istore (lv' := [(4, _), (3, _), (1, _), (0, _)]) (qc_at qkX9_readFigures 5 rfl) rfl rfl <| qc_lconst (qc_at qkX9_readFigures 6 rfl) <| qc_lstore (lv' := [(5, _), (4, _), (3, _), (1, _), (0, _)]) (qc_at qkX9_readFigures 7 rfl) rfl rfl <| qc_iconst (qc_at qkX9_readFigures 8 rfl) <| qc_istore (lv' := [(7, _), (5, _), (4, _), (3, _), (1, _), (0, _)]) (qc_at qkX9_readFigures 9 rfl) rfl rfl <| qc_sub [5, 4, 3, 2, 1, 0] rfl hx) (tX9_readFigures_l13 hn qcF hR h)
def fX9_readSign_b58 (w : qcW) (k6 : qTI × qTL × qTD × qTR × Nat × Int32 → qcO Unit) (I : qTI) (L : qTL) (D : qTD) (R : qTR) (x1 : Nat) (x2 : Int32) : qcO Unit :=
  (qc_gd (qc_l62 x1) <| (k6 (I, L, D, R, x1, (x2 + (1)))))
set_option maxRecDepth 100000 in
set_option maxHeartbeats 4000000 in
theorem tX9_readSign_b58 {w : qcW} {I : qTI} {L : qTL} {D : qTD} {R : qTR} {k6 : qTI × qTL × qTD × qTR × Nat × Int32 → qcO Unit} {x1 : Nat} {x2 : Int32} {r : Unit} {I' : qTI} {L' : qTL} {D' : qTD} {R' : qTR} (hn : qcNF ≤ w.1) (hR : qc_FR R) (hk6 : ∀ {I : qTI} {L : qTL} {D : qTD} {R : qTR} {x1 : Nat} {x2 : Int32} {r : Unit} {I' : qTI} {L' : qTL} {D' : qTD} {R' : qTR}, qc_FR R → k6 (I, L, D, R, x1, x2) = some (r, I', L', D', R') → qc_fm qcSX (I, L, D, R) (I', L', D', R') ∧ qc_X (qc_rm (5) 0 0) qmX9_readSign (qc_QM 0 0 (qc_eq none w (I', L', D', R'))) 0 0 w (6, [(0, .ref 268), (1, .ref x1), (2, .int x2)], [], I, L, D, R)) (h : fX9_readSign_b58 w k6 I L D R x1 x2 = some (r, I', L', D', R')) : qc_fm qcSX (I, L, D, R) (I', L', D', R') ∧ qc_X (qc_rm (5) 0 0) qmX9_readSign (qc_QM 0 0 (qc_eq none w (I', L', D', R'))) 0 0 w (58, [(0, .ref 268), (1, .ref x1), (2, .int x2)], [], I, L, D, R) := by
  unfold fX9_readSign_b58 at h
  obtain ⟨g1, h⟩ := qc_gd_of h
  replace g1 := qc_l62_of g1
  exact And.imp_right (fun hx => qc_iinc (lv' := [(2, _), (0, _), (1, _)]) (qc_at qkX9_readSign 30 rfl) rfl rfl rfl <| qc_goto (qc_at qkX9_readSign 31 rfl) <| qc_sub [1, 2, 0] rfl hx) (hk6 hR h)
def fX9_readSign_b6 (w : qcW) (k6 : qTI × qTL × qTD × qTR × Nat × Int32 → qcO Unit) (I : qTI) (L : qTL) (D : qTD) (R : qTR) (x1 : Nat) (x2 : Int32) : qcO Unit :=
  (qc_gd (qc_l62 x1) <| (if (nI 62) ≤ x2 then (if x1 = 0 then (qc_bd (fX9_refuse w I L D R (1 : Int32) (I 268 2)) fun r5 I5 L5 D5 R5 => some ((), I5, L5, D5, R5)) else (some ((), (qc_u I 268 3 ((I 268 2) + (nI (qc_sxLen.getD (qc_mk_text.getD x1 0) 0)))), L, D, (qc_u R 268 1 x1)))) else (qc_gd (qc_inb x2 62) <| if (nI (qc_sxLen.getD (qc_mk_text.getD (Int32.toNatClampNeg x2) 0) 0)) ≤ (nI (qc_sxLen.getD (qc_mk_text.getD x1 0) 0)) then (fX9_readSign_b58 w k6 I L D R x1 x2) else (qc_bd (fX10_hasAt w I L D R (I 268 2) (qc_mk_text.getD (Int32.toNatClampNeg x2) 0)) fun r8 I8 L8 D8 R8 => if r8 = true then (qc_gd (qc_inb x2 62) <| fX9_readSign_b58 w k6 I8 L8 D8 R8 (Int32.toNatClampNeg x2) x2) else (fX9_readSign_b58 w k6 I8 L8 D8 R8 x1 x2)))))
set_option maxRecDepth 100000 in
set_option maxHeartbeats 4000000 in
theorem tX9_readSign_b6 {w : qcW} {I : qTI} {L : qTL} {D : qTD} {R : qTR} {k6 : qTI × qTL × qTD × qTR × Nat × Int32 → qcO Unit} {x1 : Nat} {x2 : Int32} {r : Unit} {I' : qTI} {L' : qTL} {D' : qTD} {R' : qTR} (hn : qcNF ≤ w.1) (hR : qc_FR R) (hk6 : ∀ {I : qTI} {L : qTL} {D : qTD} {R : qTR} {x1 : Nat} {x2 : Int32} {r : Unit} {I' : qTI} {L' : qTL} {D' : qTD} {R' : qTR}, qc_FR R → k6 (I, L, D, R, x1, x2) = some (r, I', L', D', R') → qc_fm qcSX (I, L, D, R) (I', L', D', R') ∧ qc_X (qc_rm (5) 0 0) qmX9_readSign (qc_QM 0 0 (qc_eq none w (I', L', D', R'))) 0 0 w (6, [(0, .ref 268), (1, .ref x1), (2, .int x2)], [], I, L, D, R)) (h : fX9_readSign_b6 w k6 I L D R x1 x2 = some (r, I', L', D', R')) : qc_fm qcSX (I, L, D, R) (I', L', D', R') ∧ qc_X (qc_rm (5) 0 0) qmX9_readSign (qc_QM 0 0 (qc_eq none w (I', L', D', R'))) 0 0 w (6, [(0, .ref 268), (1, .ref x1), (2, .int x2)], [], I, L, D, R) := by
  unfold fX9_readSign_b6 at h
  obtain ⟨g2, h⟩ := qc_gd_of h
  replace g2 := qc_l62_of g2
  refine And.imp_right (fun hx => qc_iload_n (qc_at qkX9_readSign 4 rfl) rfl <| qc_gAll (qc_at qkX9_readSign 5 rfl) rfl <| qc_alenM (qc_at qkX9_readSign 6 rfl) <| hx) ?_
  refine qc_andC (qc_icmp_ge (qc_at qkX9_readSign 7 rfl)) (fun u3 => ?_) (fun u3 => ?_)
  · replace h := qc_jp u3 h
    refine And.imp_right (fun hx => qc_aload_n (qc_at qkX9_readSign 32 rfl) rfl <| qc_gS (qc_at qkX9_readSign 33 rfl) rfl <| hx) ?_
    refine qc_andN (qc_acmp_ne (qc_at qkX9_readSign 34 rfl) (Or.inl g2) (Or.inl (by decide))) (fun u4 => ?_) (fun u4 => ?_)
    · replace h := qc_jn u4 h
      refine And.imp_right (fun hx => qc_aload_n (qc_at qkX9_readSign 41 rfl) rfl <| qc_aload_n (qc_at qkX9_readSign 42 rfl) rfl <| hx) (qd_pR (qc_at qkX9_readSign 43 rfl) hn rfl (qc_ne62 g2) rfl rfl ?_)
      refine And.imp_right (fun hx => qc_aload_n (qc_at qkX9_readSign 44 rfl) rfl <| qc_aload_n (qc_at qkX9_readSign 45 rfl) rfl <| qc_gI (qc_at qkX9_readSign 46 rfl) hn rfl <| qc_aload_n (qc_at qkX9_readSign 47 rfl) rfl <| qc_gT (qc_at qkX9_readSign 48 rfl) g2 rfl <| qc_cVS (qc_at qkX9_readSign 49 rfl) ql_9_79 qfJ0_length_8abf5 (qj_tx g2) rfl (sJ_length _ _ (qj_tx g2)) rfl rfl (Nat.le_of_ble_eq_true rfl) (qc_rml (d := 1) (by decide) (by decide)) ⟨Nat.zero_le _, Nat.zero_le _⟩ <| qc_iadd (qc_at qkX9_readSign 50 rfl) <| hx) (qd_pI (qc_at qkX9_readSign 51 rfl) hn rfl rfl ?_)
      obtain ⟨rfl, rfl, rfl, rfl, rfl⟩ := qc_some5 h
      exact ⟨qc_fm.rf _, qc_vret (qc_at qkX9_readSign 52 rfl) rfl (Nat.le_refl _) (Nat.le_refl _) (qc_eq.rf _ _ _)⟩
    · replace h := qc_jp u4 h
      refine And.imp_right (fun hx => qc_aload_n (qc_at qkX9_readSign 35 rfl) rfl <| qc_iconst (qc_at qkX9_readSign 36 rfl) <| qc_aload_n (qc_at qkX9_readSign 37 rfl) rfl <| qc_gI (qc_at qkX9_readSign 38 rfl) hn rfl <| hx) ?_
      obtain ⟨r5, I5, L5, D5, R5, e5, h⟩ := qc_bd_of h
      have c5 := (tX9_refuse hn hR e5)
      refine qd_cVn (ci := 7) (a0 := 268) (qc_at qkX9_readSign 39 rfl) ql_9_89 qfX9_refuse (qc_kf hn rfl) rfl c5 rfl rfl (Nat.le_of_ble_eq_true rfl) (qc_rml (by decide) (by decide)) ⟨Nat.zero_le _, Nat.zero_le _⟩ ?_
      obtain ⟨rfl, rfl, rfl, rfl, rfl⟩ := qc_some5 h
      exact ⟨qc_fm.rf _, qc_vret (qc_at qkX9_readSign 40 rfl) rfl (Nat.le_refl _) (Nat.le_refl _) (qc_eq.rf _ _ _)⟩
  · replace h := qc_jn u3 h
    refine And.imp_right (fun hx => qc_gAll (qc_at qkX9_readSign 8 rfl) rfl <| qc_iload_n (qc_at qkX9_readSign 9 rfl) rfl <| hx) ?_
    obtain ⟨g6, h⟩ := qc_gd_of h
    refine And.imp_right (fun hx => qc_aaldM (qc_at qkX9_readSign 10 rfl) (qc_inb_in g6) <| qc_gT (qc_at qkX9_readSign 11 rfl) (qc_cl_lt g6) rfl <| qc_astore_n (lv' := [(3, _), (0, _), (1, _), (2, _)]) (qc_at qkX9_readSign 12 rfl) rfl rfl <| qc_aload_n (qc_at qkX9_readSign 13 rfl) rfl <| qc_cVS (qc_at qkX9_readSign 14 rfl) ql_9_79 qfJ0_length_8abf5 (qj_tx (qc_cl_lt g6)) rfl (sJ_length _ _ (qj_tx (qc_cl_lt g6))) rfl rfl (Nat.le_of_ble_eq_true rfl) (qc_rml (d := 1) (by decide) (by decide)) ⟨Nat.zero_le _, Nat.zero_le _⟩ <| qc_aload_n (qc_at qkX9_readSign 15 rfl) rfl <| qc_gT (qc_at qkX9_readSign 16 rfl) g2 rfl <| qc_cVS (qc_at qkX9_readSign 17 rfl) ql_9_79 qfJ0_length_8abf5 (qj_tx g2) rfl (sJ_length _ _ (qj_tx g2)) rfl rfl (Nat.le_of_ble_eq_true rfl) (qc_rml (d := 1) (by decide) (by decide)) ⟨Nat.zero_le _, Nat.zero_le _⟩ <| hx) ?_
    refine qc_andC (qc_icmp_le (qc_at qkX9_readSign 18 rfl)) (fun u7 => ?_) (fun u7 => ?_)
    · replace h := qc_jp u7 h
      exact And.imp_right (fun hx => qc_sub [1, 2, 3] rfl hx) (tX9_readSign_b58 hn hR hk6 h)
    · replace h := qc_jn u7 h
      refine And.imp_right (fun hx => qc_aload_n (qc_at qkX9_readSign 19 rfl) rfl <| qc_gR (qc_at qkX9_readSign 20 rfl) hn rfl (qfr_268_0 hR) rfl <| qc_aload_n (qc_at qkX9_readSign 21 rfl) rfl <| qc_gI (qc_at qkX9_readSign 22 rfl) hn rfl <| qc_aload_n (qc_at qkX9_readSign 23 rfl) rfl <| hx) ?_
      obtain ⟨r8, I8, L8, D8, R8, e8, h⟩ := qc_bd_of h
      have c8 := (tX10_hasAt hn hR e8)
      refine qd_cVv (ci := 8) (a0 := 265) (qc_at qkX9_readSign 24 rfl) ql_9_85 qfX10_hasAt (qc_kf hn rfl) rfl c8 rfl rfl (Nat.le_of_ble_eq_true rfl) (qc_rml (by decide) (by decide)) ⟨Nat.zero_le _, Nat.zero_le _⟩ ?_
      refine qc_andB (qc_ifB_eq (qc_at qkX9_readSign 25 rfl)) (fun u9 => ?_) (fun u9 => ?_)
      · replace h := qc_jf u9 h
        exact And.imp_right (fun hx => qc_sub [1, 2, 3] rfl hx) (tX9_readSign_b58 hn (c8.1.1 hR) hk6 h)
      · replace h := qc_jt u9 h
        refine And.imp_right (fun hx => qc_gAll (qc_at qkX9_readSign 26 rfl) rfl <| qc_iload_n (qc_at qkX9_readSign 27 rfl) rfl <| hx) ?_
        obtain ⟨g10, h⟩ := qc_gd_of h
        exact And.imp_right (fun hx => qc_aaldM (qc_at qkX9_readSign 28 rfl) (qc_inb_in g10) <| qc_astore_n (lv' := [(1, _), (3, _), (0, _), (2, _)]) (qc_at qkX9_readSign 29 rfl) rfl rfl <| qc_sub [2, 0, 3] rfl hx) (tX9_readSign_b58 hn (c8.1.1 hR) hk6 h)
def fX9_readSign_l6 (w : qcW) : Nat → qTI × qTL × qTD × qTR × Nat × Int32 → qcO Unit := qc_lp (fun k q => match q with | (I, L, D, R, x1, x2) => fX9_readSign_b6 w k I L D R x1 x2)
set_option maxRecDepth 100000 in
set_option maxHeartbeats 4000000 in
theorem tX9_readSign_l6 {w : qcW} (hn : qcNF ≤ w.1) : ∀ (n : Nat) {r : Unit} {I' : qTI} {L' : qTL} {D' : qTD} {R' : qTR} {I : qTI} {L : qTL} {D : qTD} {R : qTR} {x1 : Nat} {x2 : Int32} (hR : qc_FR R) (h : fX9_readSign_l6 w n (I, L, D, R, x1, x2) = some (r, I', L', D', R')), qc_fm qcSX (I, L, D, R) (I', L', D', R') ∧ qc_X (qc_rm (5) 0 0) qmX9_readSign (qc_QM 0 0 (qc_eq none w (I', L', D', R'))) 0 0 w (6, [(0, .ref 268), (1, .ref x1), (2, .int x2)], [], I, L, D, R) := by
  intro n
  induction n with
  | zero => intro _ _ _ _ _ _ _ _ _ _ _ _ h; cases h
  | succ n ih => intro _ _ _ _ _ _ _ _ _ _ _ hR h; exact tX9_readSign_b6 hn hR (k6 := fX9_readSign_l6 w n) (fun hR h => ih hR h) h
def fX9_readSign (w : qcW) (I : qTI) (L : qTL) (D : qTD) (R : qTR) : qcO Unit :=
  (fX9_readSign_l6 w qcF (I, L, D, R, 0, (0 : Int32)))
set_option maxRecDepth 100000 in
set_option maxHeartbeats 4000000 in
theorem tX9_readSign {w : qcW} {I : qTI} {L : qTL} {D : qTD} {R : qTR} {r : Unit} {I' : qTI} {L' : qTL} {D' : qTD} {R' : qTR} (hn : qcNF ≤ w.1) (hR : qc_FR R) (h : fX9_readSign w I L D R = some (r, I', L', D', R')) : qc_fm qcSX (I, L, D, R) (I', L', D', R') ∧ qc_V (5) 0 0 qmX9_readSign [.ref 268] w (I, L, D, R) (qc_eq none w (I', L', D', R')) := by
  unfold fX9_readSign at h
  refine And.imp_right (fun hx => qc_V.of rfl rfl (Nat.le_of_ble_eq_true rfl) (lv := [(0, .ref 268)]) rfl hx) ?_
  exact And.imp_right (fun hx => qc_gS (qc_at qkX9_readSign 0 rfl) rfl <| qc_astore_n (lv' := [(1, _), (0, _)]) (qc_at qkX9_readSign 1 rfl) rfl rfl <| qc_iconst (qc_at qkX9_readSign 2 rfl) <| qc_istore_n (lv' := [(2, _), (1, _), (0, _)]) (qc_at qkX9_readSign 3 rfl) rfl rfl <| qc_sub [2, 1, 0] rfl hx) (tX9_readSign_l6 hn qcF hR h)
def fX9_readWord_b115 (w : qcW) (k61 : qTI × qTL × qTD × qTR × Int32 × Int32 → qcO Unit) (I : qTI) (L : qTL) (D : qTD) (R : qTR) (x1 : Int32) (x2 : Int32) : qcO Unit :=
  (k61 (I, L, D, R, x1, (x2 + (1))))
set_option maxRecDepth 100000 in
set_option maxHeartbeats 4000000 in
theorem tX9_readWord_b115 {w : qcW} {I : qTI} {L : qTL} {D : qTD} {R : qTR} {k61 : qTI × qTL × qTD × qTR × Int32 × Int32 → qcO Unit} {x1 : Int32} {x2 : Int32} {r : Unit} {I' : qTI} {L' : qTL} {D' : qTD} {R' : qTR} (hn : qcNF ≤ w.1) (hR : qc_FR R) (hk61 : ∀ {I : qTI} {L : qTL} {D : qTD} {R : qTR} {x1 : Int32} {x2 : Int32} {r : Unit} {I' : qTI} {L' : qTL} {D' : qTD} {R' : qTR}, qc_FR R → k61 (I, L, D, R, x1, x2) = some (r, I', L', D', R') → qc_fm qcSX (I, L, D, R) (I', L', D', R') ∧ qc_X (qc_rm (5) 0 0) qmX9_readWord (qc_QM 0 0 (qc_eq none w (I', L', D', R'))) 0 0 w (61, [(0, .ref 268), (1, .int x1), (2, .int x2)], [], I, L, D, R)) (h : fX9_readWord_b115 w k61 I L D R x1 x2 = some (r, I', L', D', R')) : qc_fm qcSX (I, L, D, R) (I', L', D', R') ∧ qc_X (qc_rm (5) 0 0) qmX9_readWord (qc_QM 0 0 (qc_eq none w (I', L', D', R'))) 0 0 w (115, [(0, .ref 268), (1, .int x1), (2, .int x2)], [], I, L, D, R) := by
  unfold fX9_readWord_b115 at h
  exact And.imp_right (fun hx => qc_iinc (lv' := [(2, _), (0, _), (1, _)]) (qc_at qkX9_readWord 57 rfl) rfl rfl rfl <| qc_goto (qc_at qkX9_readWord 58 rfl) <| qc_sub [1, 2, 0] rfl hx) (hk61 hR h)
def fX9_readWord_b61 (w : qcW) (k61 : qTI × qTL × qTD × qTR × Int32 × Int32 → qcO Unit) (I : qTI) (L : qTL) (D : qTD) (R : qTR) (x1 : Int32) (x2 : Int32) : qcO Unit :=
  (if (nI 62) ≤ x2 then (some ((), I, L, D, R)) else (qc_gd (qc_inb x2 62) <| if (nI (qc_sxLen.getD (qc_mk_text.getD (Int32.toNatClampNeg x2) 0) 0)) = x1 then (qc_gd (qc_inb x2 62) <| qc_bd (fX10_hasAt w I L D R (I 268 2) (qc_mk_text.getD (Int32.toNatClampNeg x2) 0)) fun r5 I5 L5 D5 R5 => if r5 = true then (qc_gd (qc_inb x2 62) <| fX9_readWord_b115 w k61 I5 L5 D5 (qc_u R5 268 1 (Int32.toNatClampNeg x2)) x1 x2) else (fX9_readWord_b115 w k61 I5 L5 D5 R5 x1 x2)) else (fX9_readWord_b115 w k61 I L D R x1 x2)))
set_option maxRecDepth 100000 in
set_option maxHeartbeats 4000000 in
theorem tX9_readWord_b61 {w : qcW} {I : qTI} {L : qTL} {D : qTD} {R : qTR} {k61 : qTI × qTL × qTD × qTR × Int32 × Int32 → qcO Unit} {x1 : Int32} {x2 : Int32} {r : Unit} {I' : qTI} {L' : qTL} {D' : qTD} {R' : qTR} (hn : qcNF ≤ w.1) (hR : qc_FR R) (hk61 : ∀ {I : qTI} {L : qTL} {D : qTD} {R : qTR} {x1 : Int32} {x2 : Int32} {r : Unit} {I' : qTI} {L' : qTL} {D' : qTD} {R' : qTR}, qc_FR R → k61 (I, L, D, R, x1, x2) = some (r, I', L', D', R') → qc_fm qcSX (I, L, D, R) (I', L', D', R') ∧ qc_X (qc_rm (5) 0 0) qmX9_readWord (qc_QM 0 0 (qc_eq none w (I', L', D', R'))) 0 0 w (61, [(0, .ref 268), (1, .int x1), (2, .int x2)], [], I, L, D, R)) (h : fX9_readWord_b61 w k61 I L D R x1 x2 = some (r, I', L', D', R')) : qc_fm qcSX (I, L, D, R) (I', L', D', R') ∧ qc_X (qc_rm (5) 0 0) qmX9_readWord (qc_QM 0 0 (qc_eq none w (I', L', D', R'))) 0 0 w (61, [(0, .ref 268), (1, .int x1), (2, .int x2)], [], I, L, D, R) := by
  unfold fX9_readWord_b61 at h
  refine And.imp_right (fun hx => qc_iload_n (qc_at qkX9_readWord 31 rfl) rfl <| qc_gAll (qc_at qkX9_readWord 32 rfl) rfl <| qc_alenM (qc_at qkX9_readWord 33 rfl) <| hx) ?_
  refine qc_andC (qc_icmp_ge (qc_at qkX9_readWord 34 rfl)) (fun u1 => ?_) (fun u1 => ?_)
  · replace h := qc_jp u1 h
    obtain ⟨rfl, rfl, rfl, rfl, rfl⟩ := qc_some5 h
    exact ⟨qc_fm.rf _, qc_vret (qc_at qkX9_readWord 59 rfl) rfl (Nat.le_refl _) (Nat.le_refl _) (qc_eq.rf _ _ _)⟩
  · replace h := qc_jn u1 h
    refine And.imp_right (fun hx => qc_gAll (qc_at qkX9_readWord 35 rfl) rfl <| qc_iload_n (qc_at qkX9_readWord 36 rfl) rfl <| hx) ?_
    obtain ⟨g2, h⟩ := qc_gd_of h
    refine And.imp_right (fun hx => qc_aaldM (qc_at qkX9_readWord 37 rfl) (qc_inb_in g2) <| qc_gT (qc_at qkX9_readWord 38 rfl) (qc_cl_lt g2) rfl <| qc_cVS (qc_at qkX9_readWord 39 rfl) ql_9_79 qfJ0_length_8abf5 (qj_tx (qc_cl_lt g2)) rfl (sJ_length _ _ (qj_tx (qc_cl_lt g2))) rfl rfl (Nat.le_of_ble_eq_true rfl) (qc_rml (d := 1) (by decide) (by decide)) ⟨Nat.zero_le _, Nat.zero_le _⟩ <| qc_iload_n (qc_at qkX9_readWord 40 rfl) rfl <| hx) ?_
    refine qc_andN (qc_icmp_ne (qc_at qkX9_readWord 41 rfl)) (fun u3 => ?_) (fun u3 => ?_)
    · replace h := qc_jn u3 h
      exact And.imp_right (fun hx => qc_sub [0, 1, 2] rfl hx) (tX9_readWord_b115 hn hR hk61 h)
    · replace h := qc_jp u3 h
      refine And.imp_right (fun hx => qc_aload_n (qc_at qkX9_readWord 42 rfl) rfl <| qc_gR (qc_at qkX9_readWord 43 rfl) hn rfl (qfr_268_0 hR) rfl <| qc_aload_n (qc_at qkX9_readWord 44 rfl) rfl <| qc_gI (qc_at qkX9_readWord 45 rfl) hn rfl <| qc_gAll (qc_at qkX9_readWord 46 rfl) rfl <| qc_iload_n (qc_at qkX9_readWord 47 rfl) rfl <| hx) ?_
      obtain ⟨g4, h⟩ := qc_gd_of h
      refine And.imp_right (fun hx => qc_aaldM (qc_at qkX9_readWord 48 rfl) (qc_inb_in g4) <| qc_gT (qc_at qkX9_readWord 49 rfl) (qc_cl_lt g4) rfl <| hx) ?_
      obtain ⟨r5, I5, L5, D5, R5, e5, h⟩ := qc_bd_of h
      have c5 := (tX10_hasAt hn hR e5)
      refine qd_cVv (ci := 8) (a0 := 265) (qc_at qkX9_readWord 50 rfl) ql_9_85 qfX10_hasAt (qc_kf hn rfl) rfl c5 rfl rfl (Nat.le_of_ble_eq_true rfl) (qc_rml (by decide) (by decide)) ⟨Nat.zero_le _, Nat.zero_le _⟩ ?_
      refine qc_andB (qc_ifB_eq (qc_at qkX9_readWord 51 rfl)) (fun u6 => ?_) (fun u6 => ?_)
      · replace h := qc_jf u6 h
        exact And.imp_right (fun hx => qc_sub [0, 1, 2] rfl hx) (tX9_readWord_b115 hn (c5.1.1 hR) hk61 h)
      · replace h := qc_jt u6 h
        refine And.imp_right (fun hx => qc_aload_n (qc_at qkX9_readWord 52 rfl) rfl <| qc_gAll (qc_at qkX9_readWord 53 rfl) rfl <| qc_iload_n (qc_at qkX9_readWord 54 rfl) rfl <| hx) ?_
        obtain ⟨g7, h⟩ := qc_gd_of h
        refine And.imp_right (fun hx => qc_aaldM (qc_at qkX9_readWord 55 rfl) (qc_inb_in g7) <| hx) (qd_pR (qc_at qkX9_readWord 56 rfl) hn rfl (qc_ne62 (qc_cl_lt g7)) rfl rfl ?_)
        exact And.imp_right (fun hx => qc_sub [0, 1, 2] rfl hx) (tX9_readWord_b115 hn ((c5.1.1 hR).u _ rfl) hk61 h)
def fX9_readWord_l61 (w : qcW) : Nat → qTI × qTL × qTD × qTR × Int32 × Int32 → qcO Unit := qc_lp (fun k q => match q with | (I, L, D, R, x1, x2) => fX9_readWord_b61 w k I L D R x1 x2)
set_option maxRecDepth 100000 in
set_option maxHeartbeats 4000000 in
theorem tX9_readWord_l61 {w : qcW} (hn : qcNF ≤ w.1) : ∀ (n : Nat) {r : Unit} {I' : qTI} {L' : qTL} {D' : qTD} {R' : qTR} {I : qTI} {L : qTL} {D : qTD} {R : qTR} {x1 : Int32} {x2 : Int32} (hR : qc_FR R) (h : fX9_readWord_l61 w n (I, L, D, R, x1, x2) = some (r, I', L', D', R')), qc_fm qcSX (I, L, D, R) (I', L', D', R') ∧ qc_X (qc_rm (5) 0 0) qmX9_readWord (qc_QM 0 0 (qc_eq none w (I', L', D', R'))) 0 0 w (61, [(0, .ref 268), (1, .int x1), (2, .int x2)], [], I, L, D, R) := by
  intro n
  induction n with
  | zero => intro _ _ _ _ _ _ _ _ _ _ _ _ h; cases h
  | succ n ih => intro _ _ _ _ _ _ _ _ _ _ _ hR h; exact tX9_readWord_b61 hn hR (k61 := fX9_readWord_l61 w n) (fun hR h => ih hR h) h
def fX9_readWord_b42 (w : qcW) (I : qTI) (L : qTL) (D : qTD) (R : qTR) : qcO Unit :=
  (fX9_readWord_l61 w qcF (I, L, D, (qc_u R 268 1 4), ((I 268 3) - (I 268 2)), (0 : Int32)))
set_option maxRecDepth 100000 in
set_option maxHeartbeats 4000000 in
theorem tX9_readWord_b42 {w : qcW} {I : qTI} {L : qTL} {D : qTD} {R : qTR} {r : Unit} {I' : qTI} {L' : qTL} {D' : qTD} {R' : qTR} (hn : qcNF ≤ w.1) (hR : qc_FR R) (h : fX9_readWord_b42 w I L D R = some (r, I', L', D', R')) : qc_fm qcSX (I, L, D, R) (I', L', D', R') ∧ qc_X (qc_rm (5) 0 0) qmX9_readWord (qc_QM 0 0 (qc_eq none w (I', L', D', R'))) 0 0 w (42, [(0, .ref 268)], [], I, L, D, R) := by
  unfold fX9_readWord_b42 at h
  refine And.imp_right (fun hx => qc_aload_n (qc_at qkX9_readWord 20 rfl) rfl <| qc_gS (qc_at qkX9_readWord 21 rfl) rfl <| hx) (qd_pR (qc_at qkX9_readWord 22 rfl) hn rfl rfl rfl rfl ?_)
  exact And.imp_right (fun hx => qc_aload_n (qc_at qkX9_readWord 23 rfl) rfl <| qc_gI (qc_at qkX9_readWord 24 rfl) hn rfl <| qc_aload_n (qc_at qkX9_readWord 25 rfl) rfl <| qc_gI (qc_at qkX9_readWord 26 rfl) hn rfl <| qc_isub (qc_at qkX9_readWord 27 rfl) <| qc_istore_n (lv' := [(1, _), (0, _)]) (qc_at qkX9_readWord 28 rfl) rfl rfl <| qc_iconst (qc_at qkX9_readWord 29 rfl) <| qc_istore_n (lv' := [(2, _), (1, _), (0, _)]) (qc_at qkX9_readWord 30 rfl) rfl rfl <| qc_sub [2, 1, 0] rfl hx) (tX9_readWord_l61 hn qcF (hR.u _ rfl) h)
def fX9_readWord_b2 (w : qcW) (k2 : qTI × qTL × qTD × qTR × Int32 → qcO Unit) (I : qTI) (L : qTL) (D : qTD) (R : qTR) (x1 : Int32) : qcO Unit :=
  (if (400 : Int32) ≤ x1 then (fX9_readWord_b42 w I L D R) else (qc_bd (fX10_at w I L D R (I 268 3)) fun r9 I9 L9 D9 R9 => qc_bd (fX9_isLetter w I9 L9 D9 R9 r9) fun r10 I10 L10 D10 R10 => if r10 = true then (k2 ((qc_u I10 268 3 ((I10 268 3) + (1 : Int32))), L10, D10, R10, (x1 + (1)))) else (fX9_readWord_b42 w I10 L10 D10 R10)))
set_option maxRecDepth 100000 in
set_option maxHeartbeats 4000000 in
theorem tX9_readWord_b2 {w : qcW} {I : qTI} {L : qTL} {D : qTD} {R : qTR} {k2 : qTI × qTL × qTD × qTR × Int32 → qcO Unit} {x1 : Int32} {r : Unit} {I' : qTI} {L' : qTL} {D' : qTD} {R' : qTR} (hn : qcNF ≤ w.1) (hR : qc_FR R) (hk2 : ∀ {I : qTI} {L : qTL} {D : qTD} {R : qTR} {x1 : Int32} {r : Unit} {I' : qTI} {L' : qTL} {D' : qTD} {R' : qTR}, qc_FR R → k2 (I, L, D, R, x1) = some (r, I', L', D', R') → qc_fm qcSX (I, L, D, R) (I', L', D', R') ∧ qc_X (qc_rm (5) 0 0) qmX9_readWord (qc_QM 0 0 (qc_eq none w (I', L', D', R'))) 0 0 w (2, [(0, .ref 268), (1, .int x1)], [], I, L, D, R)) (h : fX9_readWord_b2 w k2 I L D R x1 = some (r, I', L', D', R')) : qc_fm qcSX (I, L, D, R) (I', L', D', R') ∧ qc_X (qc_rm (5) 0 0) qmX9_readWord (qc_QM 0 0 (qc_eq none w (I', L', D', R'))) 0 0 w (2, [(0, .ref 268), (1, .int x1)], [], I, L, D, R) := by
  unfold fX9_readWord_b2 at h
  refine And.imp_right (fun hx => qc_iload_n (qc_at qkX9_readWord 2 rfl) rfl <| qc_sipush (qc_at qkX9_readWord 3 rfl) <| hx) ?_
  refine qc_andC (qc_icmp_ge (qc_at qkX9_readWord 4 rfl)) (fun u8 => ?_) (fun u8 => ?_)
  · replace h := qc_jp u8 h
    exact And.imp_right (fun hx => qc_sub [0] rfl hx) (tX9_readWord_b42 hn hR h)
  · replace h := qc_jn u8 h
    refine And.imp_right (fun hx => qc_aload_n (qc_at qkX9_readWord 5 rfl) rfl <| qc_gR (qc_at qkX9_readWord 6 rfl) hn rfl (qfr_268_0 hR) rfl <| qc_aload_n (qc_at qkX9_readWord 7 rfl) rfl <| qc_gI (qc_at qkX9_readWord 8 rfl) hn rfl <| hx) ?_
    obtain ⟨r9, I9, L9, D9, R9, e9, h⟩ := qc_bd_of h
    have c9 := (tX10_at hn hR e9)
    refine qd_cVv (ci := 8) (a0 := 265) (qc_at qkX9_readWord 9 rfl) ql_9_42 qfX10_at (qc_kf hn rfl) rfl c9 rfl rfl (Nat.le_of_ble_eq_true rfl) (qc_rml (by decide) (by decide)) ⟨Nat.zero_le _, Nat.zero_le _⟩ ?_
    obtain ⟨r10, I10, L10, D10, R10, e10, h⟩ := qc_bd_of h
    have c10 := (tX9_isLetter hn (c9.1.1 hR) e10)
    refine qd_cSv (qc_at qkX9_readWord 10 rfl) ql_9_53 qfX9_isLetter c10 rfl rfl (Nat.le_of_ble_eq_true rfl) (qc_rml (by decide) (by decide)) ⟨Nat.zero_le _, Nat.zero_le _⟩ ?_
    refine qc_andB (qc_ifB_eq (qc_at qkX9_readWord 11 rfl)) (fun u11 => ?_) (fun u11 => ?_)
    · replace h := qc_jf u11 h
      exact And.imp_right (fun hx => qc_sub [0] rfl hx) (tX9_readWord_b42 hn (c10.1.1 (c9.1.1 hR)) h)
    · replace h := qc_jt u11 h
      refine And.imp_right (fun hx => qc_aload_n (qc_at qkX9_readWord 12 rfl) rfl <| qc_dup (qc_at qkX9_readWord 13 rfl) rfl <| qc_gI (qc_at qkX9_readWord 14 rfl) hn rfl <| qc_iconst (qc_at qkX9_readWord 15 rfl) <| qc_iadd (qc_at qkX9_readWord 16 rfl) <| hx) (qd_pI (qc_at qkX9_readWord 17 rfl) hn rfl rfl ?_)
      exact And.imp_right (fun hx => qc_iinc (lv' := [(1, _), (0, _)]) (qc_at qkX9_readWord 18 rfl) rfl rfl rfl <| qc_goto (qc_at qkX9_readWord 19 rfl) <| qc_sub [1, 0] rfl hx) (hk2 (c10.1.1 (c9.1.1 hR)) h)
def fX9_readWord_l2 (w : qcW) : Nat → qTI × qTL × qTD × qTR × Int32 → qcO Unit := qc_lp (fun k q => match q with | (I, L, D, R, x1) => fX9_readWord_b2 w k I L D R x1)
set_option maxRecDepth 100000 in
set_option maxHeartbeats 4000000 in
theorem tX9_readWord_l2 {w : qcW} (hn : qcNF ≤ w.1) : ∀ (n : Nat) {r : Unit} {I' : qTI} {L' : qTL} {D' : qTD} {R' : qTR} {I : qTI} {L : qTL} {D : qTD} {R : qTR} {x1 : Int32} (hR : qc_FR R) (h : fX9_readWord_l2 w n (I, L, D, R, x1) = some (r, I', L', D', R')), qc_fm qcSX (I, L, D, R) (I', L', D', R') ∧ qc_X (qc_rm (5) 0 0) qmX9_readWord (qc_QM 0 0 (qc_eq none w (I', L', D', R'))) 0 0 w (2, [(0, .ref 268), (1, .int x1)], [], I, L, D, R) := by
  intro n
  induction n with
  | zero => intro _ _ _ _ _ _ _ _ _ _ _ h; cases h
  | succ n ih => intro _ _ _ _ _ _ _ _ _ _ hR h; exact tX9_readWord_b2 hn hR (k2 := fX9_readWord_l2 w n) (fun hR h => ih hR h) h
def fX9_readWord (w : qcW) (I : qTI) (L : qTL) (D : qTD) (R : qTR) : qcO Unit :=
  (fX9_readWord_l2 w qcF (I, L, D, R, (0 : Int32)))
set_option maxRecDepth 100000 in
set_option maxHeartbeats 4000000 in
theorem tX9_readWord {w : qcW} {I : qTI} {L : qTL} {D : qTD} {R : qTR} {r : Unit} {I' : qTI} {L' : qTL} {D' : qTD} {R' : qTR} (hn : qcNF ≤ w.1) (hR : qc_FR R) (h : fX9_readWord w I L D R = some (r, I', L', D', R')) : qc_fm qcSX (I, L, D, R) (I', L', D', R') ∧ qc_V (5) 0 0 qmX9_readWord [.ref 268] w (I, L, D, R) (qc_eq none w (I', L', D', R')) := by
  unfold fX9_readWord at h
  refine And.imp_right (fun hx => qc_V.of rfl rfl (Nat.le_of_ble_eq_true rfl) (lv := [(0, .ref 268)]) rfl hx) ?_
  exact And.imp_right (fun hx => qc_iconst (qc_at qkX9_readWord 0 rfl) <| qc_istore_n (lv' := [(1, _), (0, _)]) (qc_at qkX9_readWord 1 rfl) rfl rfl <| qc_sub [1, 0] rfl hx) (tX9_readWord_l2 hn qcF hR h)
