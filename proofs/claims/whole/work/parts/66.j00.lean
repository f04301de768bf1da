def fX2_faultKind (w : qcW) (I : qTI) (L : qTL) (D : qTD) (R : qTR) : qcO Int32 :=
  (some ((I 268 6), I, L, D, R))
set_option maxRecDepth 100000 in
set_option maxHeartbeats 4000000 in
theorem tX2_faultKind {w : qcW} {I : qTI} {L : qTL} {D : qTD} {R : qTR} {r : Int32} {I' : qTI} {L' : qTL} {D' : qTD} {R' : qTR} (hn : qcNF ≤ w.1) (hR : qc_FR R) (h : fX2_faultKind w I L D R = some (r, I', L', D', R')) : qc_fm qcSX (I, L, D, R) (I', L', D', R') ∧ qc_V (0) 0 0 qmX2_faultKind [.ref 267] w (I, L, D, R) (qc_eq (some (.int r)) w (I', L', D', R')) := by
  unfold fX2_faultKind at h
  refine And.imp_right (fun hx => qc_V.of rfl rfl (Nat.le_of_ble_eq_true rfl) (lv := [(0, .ref 267)]) rfl hx) ?_
  obtain ⟨rfl, rfl, rfl, rfl, rfl⟩ := qc_some5 h
  exact ⟨qc_fm.rf _, qc_aload_n (qc_at qkX2_faultKind 0 rfl) rfl <| qc_gR (qc_at qkX2_faultKind 1 rfl) hn rfl (qfr_267_0 hR) rfl <| qc_gI (qc_at qkX2_faultKind 2 rfl) hn rfl <| qc_iret (qc_at qkX2_faultKind 3 rfl) rfl (Nat.le_refl _) (Nat.le_refl _) (qc_eq.rf _ _ _)⟩
def fX2_faultPlace (w : qcW) (I : qTI) (L : qTL) (D : qTD) (R : qTR) : qcO Int32 :=
  (some ((I 268 7), I, L, D, R))
set_option maxRecDepth 100000 in
set_option maxHeartbeats 4000000 in
theorem tX2_faultPlace {w : qcW} {I : qTI} {L : qTL} {D : qTD} {R : qTR} {r : Int32} {I' : qTI} {L' : qTL} {D' : qTD} {R' : qTR} (hn : qcNF ≤ w.1) (hR : qc_FR R) (h : fX2_faultPlace w I L D R = some (r, I', L', D', R')) : qc_fm qcSX (I, L, D, R) (I', L', D', R') ∧ qc_V (0) 0 0 qmX2_faultPlace [.ref 267] w (I, L, D, R) (qc_eq (some (.int r)) w (I', L', D', R')) := by
  unfold fX2_faultPlace at h
  refine And.imp_right (fun hx => qc_V.of rfl rfl (Nat.le_of_ble_eq_true rfl) (lv := [(0, .ref 267)]) rfl hx) ?_
  obtain ⟨rfl, rfl, rfl, rfl, rfl⟩ := qc_some5 h
  exact ⟨qc_fm.rf _, qc_aload_n (qc_at qkX2_faultPlace 0 rfl) rfl <| qc_gR (qc_at qkX2_faultPlace 1 rfl) hn rfl (qfr_267_0 hR) rfl <| qc_gI (qc_at qkX2_faultPlace 2 rfl) hn rfl <| qc_iret (qc_at qkX2_faultPlace 3 rfl) rfl (Nat.le_refl _) (Nat.le_refl _) (qc_eq.rf _ _ _)⟩
def fX2_begin_b2 (w : qcW) (k2 : qTI × qTL × qTD × qTR × Int32 → qcO Unit) (I : qTI) (L : qTL) (D : qTD) (R : qTR) (x1 : Int32) : qcO Unit :=
  (if (3 : Int32) ≤ x1 then (qc_bd (fX9_start w (qc_u (qc_u (qc_u (qc_u (qc_u (qc_u I 267 5 (0 : Int32)) 267 6 (0 : Int32)) 267 9 (2 : Int32)) 267 10 (-1 : Int32)) 267 11 (0 : Int32)) 267 12 (16 : Int32)) L D (qc_u R 267 8 10)) fun r2 I2 L2 D2 R2 => some ((), I2, L2, D2, R2)) else (qc_gd (qc_inb x1 3) <| qc_gd (qc_io w (R 269 (Int32.toNatClampNeg x1)) 0) <| qc_bd (fX0_begin w I L D R (R 269 (Int32.toNatClampNeg x1))) fun r5 I5 L5 D5 R5 => k2 (I5, L5, D5, R5, (x1 + (1)))))
set_option maxRecDepth 100000 in
set_option maxHeartbeats 4000000 in
theorem tX2_begin_b2 {w : qcW} {I : qTI} {L : qTL} {D : qTD} {R : qTR} {k2 : qTI × qTL × qTD × qTR × Int32 → qcO Unit} {x1 : Int32} {r : Unit} {I' : qTI} {L' : qTL} {D' : qTD} {R' : qTR} (hn : qcNF ≤ w.1) (hR : qc_FR R) (hk2 : ∀ {I : qTI} {L : qTL} {D : qTD} {R : qTR} {x1 : Int32} {r : Unit} {I' : qTI} {L' : qTL} {D' : qTD} {R' : qTR}, qc_FR R → k2 (I, L, D, R, x1) = some (r, I', L', D', R') → qc_fm qcSX (I, L, D, R) (I', L', D', R') ∧ qc_X (qc_rm (8) 0 0) qmX2_begin (qc_QM 0 0 (qc_eq none w (I', L', D', R'))) 0 0 w (2, [(0, .ref 267), (1, .int x1)], [], I, L, D, R)) (h : fX2_begin_b2 w k2 I L D R x1 = some (r, I', L', D', R')) : qc_fm qcSX (I, L, D, R) (I', L', D', R') ∧ qc_X (qc_rm (8) 0 0) qmX2_begin (qc_QM 0 0 (qc_eq none w (I', L', D', R'))) 0 0 w (2, [(0, .ref 267), (1, .int x1)], [], I, L, D, R) := by
  unfold fX2_begin_b2 at h
  refine And.imp_right (fun hx => qc_iload_n (qc_at qkX2_begin 2 rfl) rfl <| qc_iconst (qc_at qkX2_begin 3 rfl) <| hx) ?_
  refine qc_andC (qc_icmp_ge (qc_at qkX2_begin 4 rfl)) (fun u1 => ?_) (fun u1 => ?_)
  · replace h := qc_jp u1 h
    refine And.imp_right (fun hx => qc_aload_n (qc_at qkX2_begin 12 rfl) rfl <| qc_iconst (qc_at qkX2_begin 13 rfl) <| hx) (qd_pI (qc_at qkX2_begin 14 rfl) hn rfl rfl ?_)
    refine And.imp_right (fun hx => qc_aload_n (qc_at qkX2_begin 15 rfl) rfl <| qc_iconst (qc_at qkX2_begin 16 rfl) <| hx) (qd_pI (qc_at qkX2_begin 17 rfl) hn rfl rfl ?_)
    refine And.imp_right (fun hx => qc_aload_n (qc_at qkX2_begin 18 rfl) rfl <| qc_gS (qc_at qkX2_begin 19 rfl) rfl <| hx) (qd_pR (qc_at qkX2_begin 20 rfl) hn rfl rfl rfl rfl ?_)
    refine And.imp_right (fun hx => qc_aload_n (qc_at qkX2_begin 21 rfl) rfl <| qc_iconst (qc_at qkX2_begin 22 rfl) <| hx) (qd_pI (qc_at qkX2_begin 23 rfl) hn rfl rfl ?_)
    refine And.imp_right (fun hx => qc_aload_n (qc_at qkX2_begin 24 rfl) rfl <| qc_iconst (qc_at qkX2_begin 25 rfl) <| hx) (qd_pI (qc_at qkX2_begin 26 rfl) hn rfl rfl ?_)
    refine And.imp_right (fun hx => qc_aload_n (qc_at qkX2_begin 27 rfl) rfl <| qc_iconst (qc_at qkX2_begin 28 rfl) <| hx) (qd_pI (qc_at qkX2_begin 29 rfl) hn rfl rfl ?_)
    refine And.imp_right (fun hx => qc_aload_n (qc_at qkX2_begin 30 rfl) rfl <| qc_bipush (qc_at qkX2_begin 31 rfl) <| hx) (qd_pI (qc_at qkX2_begin 32 rfl) hn rfl rfl ?_)
    refine And.imp_right (fun hx => qc_aload_n (qc_at qkX2_begin 33 rfl) rfl <| qc_gR (qc_at qkX2_begin 34 rfl) hn rfl (qfr_267_0 (hR.u _ rfl)) rfl <| hx) ?_
    obtain ⟨r2, I2, L2, D2, R2, e2, h⟩ := qc_bd_of h
    have c2 := (tX9_start hn (hR.u _ rfl) e2)
    refine qd_cVn (ci := 7) (a0 := 268) (qc_at qkX2_begin 35 rfl) ql_2_170 qfX9_start (qc_kf hn rfl) rfl c2 rfl rfl (Nat.le_of_ble_eq_true rfl) (qc_rml (by decide) (by decide)) ⟨Nat.zero_le _, Nat.zero_le _⟩ ?_
    obtain ⟨rfl, rfl, rfl, rfl, rfl⟩ := qc_some5 h
    exact ⟨qc_fm.rf _, qc_vret (qc_at qkX2_begin 36 rfl) rfl (Nat.le_refl _) (Nat.le_refl _) (qc_eq.rf _ _ _)⟩
  · replace h := qc_jn u1 h
    refine And.imp_right (fun hx => qc_aload_n (qc_at qkX2_begin 5 rfl) rfl <| qc_gR (qc_at qkX2_begin 6 rfl) hn rfl (qfr_267_2 hR) rfl <| qc_iload_n (qc_at qkX2_begin 7 rfl) rfl <| hx) ?_
    obtain ⟨g3, h⟩ := qc_gd_of h
    obtain ⟨g4, h⟩ := qc_gd_of h
    replace g4 := qc_io_of g4
    refine And.imp_right (fun hx => qc_aald 0 (Or.inl rfl) (qc_at qkX2_begin 8 rfl) (qc_kaf hn rfl) (qc_inb_in (n := 3) g3) rfl (qc_ki255 g4) <| hx) ?_
    obtain ⟨r5, I5, L5, D5, R5, e5, h⟩ := qc_bd_of h
    have c5 := (tX0_begin hn hR e5)
    refine qd_cVn (ci := 0) (qc_at qkX2_begin 9 rfl) ql_2_154 qfX0_begin g4 rfl c5 rfl rfl (Nat.le_of_ble_eq_true rfl) (qc_rml (by decide) (by decide)) ⟨Nat.zero_le _, Nat.zero_le _⟩ ?_
    exact And.imp_right (fun hx => qc_iinc (lv' := [(1, _), (0, _)]) (qc_at qkX2_begin 10 rfl) rfl rfl rfl <| qc_goto (qc_at qkX2_begin 11 rfl) <| qc_sub [1, 0] rfl hx) (hk2 (c5.1.1 hR) h)
def fX2_begin_l2 (w : qcW) : Nat → qTI × qTL × qTD × qTR × Int32 → qcO Unit := qc_lp (fun k q => match q with | (I, L, D, R, x1) => fX2_begin_b2 w k I L D R x1)
set_option maxRecDepth 100000 in
set_option maxHeartbeats 4000000 in
theorem tX2_begin_l2 {w : qcW} (hn : qcNF ≤ w.1) : ∀ (n : Nat) {r : Unit} {I' : qTI} {L' : qTL} {D' : qTD} {R' : qTR} {I : qTI} {L : qTL} {D : qTD} {R : qTR} {x1 : Int32} (hR : qc_FR R) (h : fX2_begin_l2 w n (I, L, D, R, x1) = some (r, I', L', D', R')), qc_fm qcSX (I, L, D, R) (I', L', D', R') ∧ qc_X (qc_rm (8) 0 0) qmX2_begin (qc_QM 0 0 (qc_eq none w (I', L', D', R'))) 0 0 w (2, [(0, .ref 267), (1, .int x1)], [], I, L, D, R) := by
  intro n
  induction n with
  | zero => intro _ _ _ _ _ _ _ _ _ _ _ h; cases h
  | succ n ih => intro _ _ _ _ _ _ _ _ _ _ hR h; exact tX2_begin_b2 hn hR (k2 := fX2_begin_l2 w n) (fun hR h => ih hR h) h
def fX2_begin (w : qcW) (I : qTI) (L : qTL) (D : qTD) (R : qTR) : qcO Unit :=
  (fX2_begin_l2 w qcF (I, L, D, R, (0 : Int32)))
set_option maxRecDepth 100000 in
set_option maxHeartbeats 4000000 in
theorem tX2_begin {w : qcW} {I : qTI} {L : qTL} {D : qTD} {R : qTR} {r : Unit} {I' : qTI} {L' : qTL} {D' : qTD} {R' : qTR} (hn : qcNF ≤ w.1) (hR : qc_FR R) (h : fX2_begin w I L D R = some (r, I', L', D', R')) : qc_fm qcSX (I, L, D, R) (I', L', D', R') ∧ qc_V (8) 0 0 qmX2_begin [.ref 267] w (I, L, D, R) (qc_eq none w (I', L', D', R')) := by
  unfold fX2_begin at h
  refine And.imp_right (fun hx => qc_V.of rfl rfl (Nat.le_of_ble_eq_true rfl) (lv := [(0, .ref 267)]) rfl hx) ?_
  exact And.imp_right (fun hx => qc_iconst (qc_at qkX2_begin 0 rfl) <| qc_istore_n (lv' := [(1, _), (0, _)]) (qc_at qkX2_begin 1 rfl) rfl rfl <| qc_sub [1, 0] rfl hx) (tX2_begin_l2 hn qcF hR h)
def fX2_fit (w : qcW) (I : qTI) (L : qTL) (D : qTD) (R : qTR) (x1 : Int32) (x2 : Int32) : qcO Unit :=
  (if x1 = 0 then (qc_bd (fX9_refuse w I L D R (4 : Int32) x2) fun r2 I2 L2 D2 R2 => some ((), I2, L2, D2, R2)) else (some ((), I, L, D, R)))
set_option maxRecDepth 100000 in
set_option maxHeartbeats 4000000 in
theorem tX2_fit {w : qcW} {I : qTI} {L : qTL} {D : qTD} {R : qTR} {x1 : Int32} {x2 : Int32} {r : Unit} {I' : qTI} {L' : qTL} {D' : qTD} {R' : qTR} (hn : qcNF ≤ w.1) (hR : qc_FR R) (h : fX2_fit w I L D R x1 x2 = some (r, I', L', D', R')) : qc_fm qcSX (I, L, D, R) (I', L', D', R') ∧ qc_V (1) 0 0 qmX2_fit [.ref 267, .int x1, .int x2] w (I, L, D, R) (qc_eq none w (I', L', D', R')) := by
  unfold fX2_fit at h
  refine And.imp_right (fun hx => qc_V.of rfl rfl (Nat.le_of_ble_eq_true rfl) (lv := [(0, .ref 267), (1, .int x1), (2, .int x2)]) rfl hx) ?_
  refine And.imp_right (fun hx => qc_iload_n (qc_at qkX2_fit 0 rfl) rfl <| hx) ?_
  refine qc_andN (qc_if_ne (qc_at qkX2_fit 1 rfl)) (fun u1 => ?_) (fun u1 => ?_)
  · replace h := qc_jn u1 h
    obtain ⟨rfl, rfl, rfl, rfl, rfl⟩ := qc_some5 h
    exact ⟨qc_fm.rf _, qc_vret (qc_at qkX2_fit 7 rfl) rfl (Nat.le_refl _) (Nat.le_refl _) (qc_eq.rf _ _ _)⟩
  · replace h := qc_jp u1 h
    refine And.imp_right (fun hx => qc_aload_n (qc_at qkX2_fit 2 rfl) rfl <| qc_gR (qc_at qkX2_fit 3 rfl) hn rfl (qfr_267_0 hR) rfl <| qc_iconst (qc_at qkX2_fit 4 rfl) <| qc_iload_n (qc_at qkX2_fit 5 rfl) rfl <| hx) ?_
    obtain ⟨r2, I2, L2, D2, R2, e2, h⟩ := qc_bd_of h
    have c2 := (tX9_refuse hn hR e2)
    refine qd_cVn (ci := 7) (a0 := 268) (qc_at qkX2_fit 6 rfl) ql_2_145 qfX9_refuse (qc_kf hn rfl) rfl c2 rfl rfl (Nat.le_of_ble_eq_true rfl) (qc_rml (by decide) (by decide)) ⟨Nat.zero_le _, Nat.zero_le _⟩ ?_
    obtain ⟨rfl, rfl, rfl, rfl, rfl⟩ := qc_some5 h
    exact ⟨qc_fm.rf _, qc_vret (qc_at qkX2_fit 7 rfl) rfl (Nat.le_refl _) (Nat.le_refl _) (qc_eq.rf _ _ _)⟩
def fX2_took (w : qcW) (I : qTI) (L : qTL) (D : qTD) (R : qTR) (x1 : Nat) : qcO Bool :=
  (qc_gd (qc_l62 x1) <| (qc_gd (qc_l62 (R 268 1)) <| if (R 268 1) = x1 then (qc_bd (fX9_take w I L D R) fun r4 I4 L4 D4 R4 => some (true, I4, L4, D4, R4)) else (some (false, I, L, D, R))))
set_option maxRecDepth 100000 in
set_option maxHeartbeats 4000000 in
theorem tX2_took {w : qcW} {I : qTI} {L : qTL} {D : qTD} {R : qTR} {x1 : Nat} {r : Bool} {I' : qTI} {L' : qTL} {D' : qTD} {R' : qTR} (hn : qcNF ≤ w.1) (hR : qc_FR R) (h : fX2_took w I L D R x1 = some (r, I', L', D', R')) : qc_fm qcSX (I, L, D, R) (I', L', D', R') ∧ qc_V (7) 0 0 qmX2_took [.ref 267, .ref x1] w (I, L, D, R) (qc_eq (some (.int (qc_b r))) w (I', L', D', R')) := by
  unfold fX2_took at h
  refine And.imp_right (fun hx => qc_V.of rfl rfl (Nat.le_of_ble_eq_true rfl) (lv := [(0, .ref 267), (1, .ref x1)]) rfl hx) ?_
  obtain ⟨g1, h⟩ := qc_gd_of h
  replace g1 := qc_l62_of g1
  refine And.imp_right (fun hx => qc_aload_n (qc_at qkX2_took 0 rfl) rfl <| qc_gR (qc_at qkX2_took 1 rfl) hn rfl (qfr_267_0 hR) rfl <| hx) ?_
  obtain ⟨g2, h⟩ := qc_gd_of h
  replace g2 := qc_l62_of g2
  refine And.imp_right (fun hx => qc_gR (qc_at qkX2_took 2 rfl) hn rfl rfl (qc_ne62 g2) <| qc_aload_n (qc_at qkX2_took 3 rfl) rfl <| hx) ?_
  refine qc_andC (qc_acmp_eq (qc_at qkX2_took 4 rfl) (Or.inl g2) (Or.inl g1)) (fun u3 => ?_) (fun u3 => ?_)
  · replace h := qc_jp u3 h
    refine And.imp_right (fun hx => qc_aload_n (qc_at qkX2_took 7 rfl) rfl <| qc_gR (qc_at qkX2_took 8 rfl) hn rfl (qfr_267_0 hR) rfl <| hx) ?_
    obtain ⟨r4, I4, L4, D4, R4, e4, h⟩ := qc_bd_of h
    have c4 := (tX9_take hn hR e4)
    refine qd_cVn (ci := 7) (a0 := 268) (qc_at qkX2_took 9 rfl) ql_2_195 qfX9_take (qc_kf hn rfl) rfl c4 rfl rfl (Nat.le_of_ble_eq_true rfl) (qc_rml (by decide) (by decide)) ⟨Nat.zero_le _, Nat.zero_le _⟩ ?_
    obtain ⟨rfl, rfl, rfl, rfl, rfl⟩ := qc_some5 h
    exact ⟨qc_fm.rf _, qc_iconst (qc_at qkX2_took 10 rfl) <| qc_zret (qc_at qkX2_took 11 rfl) rfl (Or.inr rfl) (Nat.le_refl _) (Nat.le_refl _) ⟨rfl, rfl, rfl⟩⟩
  · replace h := qc_jn u3 h
    obtain ⟨rfl, rfl, rfl, rfl, rfl⟩ := qc_some5 h
    exact ⟨qc_fm.rf _, qc_iconst (qc_at qkX2_took 5 rfl) <| qc_zret (qc_at qkX2_took 6 rfl) rfl (Or.inl rfl) (Nat.le_refl _) (Nat.le_refl _) ⟨rfl, rfl, rfl⟩⟩
def fX2_misplaced (w : qcW) (I : qTI) (L : qTL) (D : qTD) (R : qTR) : qcO Unit :=
  (qc_bd (fX9_refuse w I L D R (2 : Int32) (I 268 2)) fun r1 I1 L1 D1 R1 => some ((), I1, L1, D1, R1))
set_option maxRecDepth 100000 in
set_option maxHeartbeats 4000000 in
theorem tX2_misplaced {w : qcW} {I : qTI} {L : qTL} {D : qTD} {R : qTR} {r : Unit} {I' : qTI} {L' : qTL} {D' : qTD} {R' : qTR} (hn : qcNF ≤ w.1) (hR : qc_FR R) (h : fX2_misplaced w I L D R = some (r, I', L', D', R')) : qc_fm qcSX (I, L, D, R) (I', L', D', R') ∧ qc_V (1) 0 0 qmX2_misplaced [.ref 267] w (I, L, D, R) (qc_eq none w (I', L', D', R')) := by
  unfold fX2_misplaced at h
  refine And.imp_right (fun hx => qc_V.of rfl rfl (Nat.le_of_ble_eq_true rfl) (lv := [(0, .ref 267)]) rfl hx) ?_
  refine And.imp_right (fun hx => qc_aload_n (qc_at qkX2_misplaced 0 rfl) rfl <| qc_gR (qc_at qkX2_misplaced 1 rfl) hn rfl (qfr_267_0 hR) rfl <| qc_iconst (qc_at qkX2_misplaced 2 rfl) <| qc_aload_n (qc_at qkX2_misplaced 3 rfl) rfl <| qc_gR (qc_at qkX2_misplaced 4 rfl) hn rfl (qfr_267_0 hR) rfl <| qc_gI (qc_at qkX2_misplaced 5 rfl) hn rfl <| hx) ?_
  obtain ⟨r1, I1, L1, D1, R1, e1, h⟩ := qc_bd_of h
  have c1 := (tX9_refuse hn hR e1)
  refine qd_cVn (ci := 7) (a0 := 268) (qc_at qkX2_misplaced 6 rfl) ql_2_145 qfX9_refuse (qc_kf hn rfl) rfl c1 rfl rfl (Nat.le_of_ble_eq_true rfl) (qc_rml (by decide) (by decide)) ⟨Nat.zero_le _, Nat.zero_le _⟩ ?_
  obtain ⟨rfl, rfl, rfl, rfl, rfl⟩ := qc_some5 h
  exact ⟨qc_fm.rf _, qc_vret (qc_at qkX2_misplaced 7 rfl) rfl (Nat.le_refl _) (Nat.le_refl _) (qc_eq.rf _ _ _)⟩
def fX2_expect_b15 (w : qcW) (I : qTI) (L : qTL) (D : qTD) (R : qTR) : qcO Unit :=
  (qc_bd (fX9_take w I L D R) fun r1 I1 L1 D1 R1 => some ((), I1, L1, D1, R1))
set_option maxRecDepth 100000 in
set_option maxHeartbeats 4000000 in
theorem tX2_expect_b15 {w : qcW} {I : qTI} {L : qTL} {D : qTD} {R : qTR} {r : Unit} {I' : qTI} {L' : qTL} {D' : qTD} {R' : qTR} (hn : qcNF ≤ w.1) (hR : qc_FR R) (h : fX2_expect_b15 w I L D R = some (r, I', L', D', R')) : qc_fm qcSX (I, L, D, R) (I', L', D', R') ∧ qc_X (qc_rm (7) 0 0) qmX2_expect (qc_QM 0 0 (qc_eq none w (I', L', D', R'))) 0 0 w (15, [(0, .ref 267)], [], I, L, D, R) := by
  unfold fX2_expect_b15 at h
  refine And.imp_right (fun hx => qc_aload_n (qc_at qkX2_expect 7 rfl) rfl <| qc_gR (qc_at qkX2_expect 8 rfl) hn rfl (qfr_267_0 hR) rfl <| hx) ?_
  obtain ⟨r1, I1, L1, D1, R1, e1, h⟩ := qc_bd_of h
  have c1 := (tX9_take hn hR e1)
  refine qd_cVn (ci := 7) (a0 := 268) (qc_at qkX2_expect 9 rfl) ql_2_195 qfX9_take (qc_kf hn rfl) rfl c1 rfl rfl (Nat.le_of_ble_eq_true rfl) (qc_rml (by decide) (by decide)) ⟨Nat.zero_le _, Nat.zero_le _⟩ ?_
  obtain ⟨rfl, rfl, rfl, rfl, rfl⟩ := qc_some5 h
  exact ⟨qc_fm.rf _, qc_vret (qc_at qkX2_expect 10 rfl) rfl (Nat.le_refl _) (Nat.le_refl _) (qc_eq.rf _ _ _)⟩
def fX2_expect (w : qcW) (I : qTI) (L : qTL) (D : qTD) (R : qTR) (x1 : Nat) : qcO Unit :=
  (qc_gd (qc_l62 x1) <| (qc_gd (qc_l62 (R 268 1)) <| if (R 268 1) = x1 then (fX2_expect_b15 w I L D R) else (qc_bd (fX2_misplaced w I L D R) fun r5 I5 L5 D5 R5 => fX2_expect_b15 w I5 L5 D5 R5)))
set_option maxRecDepth 100000 in
set_option maxHeartbeats 4000000 in
theorem tX2_expect {w : qcW} {I : qTI} {L : qTL} {D : qTD} {R : qTR} {x1 : Nat} {r : Unit} {I' : qTI} {L' : qTL} {D' : qTD} {R' : qTR} (hn : qcNF ≤ w.1) (hR : qc_FR R) (h : fX2_expect w I L D R x1 = some (r, I', L', D', R')) : qc_fm qcSX (I, L, D, R) (I', L', D', R') ∧ qc_V (7) 0 0 qmX2_expect [.ref 267, .ref x1] w (I, L, D, R) (qc_eq none w (I', L', D', R')) := by
  unfold fX2_expect at h
  refine And.imp_right (fun hx => qc_V.of rfl rfl (Nat.le_of_ble_eq_true rfl) (lv := [(0, .ref 267), (1, .ref x1)]) rfl hx) ?_
  obtain ⟨g2, h⟩ := qc_gd_of h
  replace g2 := qc_l62_of g2
  refine And.imp_right (fun hx => qc_aload_n (qc_at qkX2_expect 0 rfl) rfl <| qc_gR (qc_at qkX2_expect 1 rfl) hn rfl (qfr_267_0 hR) rfl <| hx) ?_
  obtain ⟨g3, h⟩ := qc_gd_of h
  replace g3 := qc_l62_of g3
  refine And.imp_right (fun hx => qc_gR (qc_at qkX2_expect 2 rfl) hn rfl rfl (qc_ne62 g3) <| qc_aload_n (qc_at qkX2_expect 3 rfl) rfl <| hx) ?_
  refine qc_andC (qc_acmp_eq (qc_at qkX2_expect 4 rfl) (Or.inl g3) (Or.inl g2)) (fun u4 => ?_) (fun u4 => ?_)
  · replace h := qc_jp u4 h
    exact And.imp_right (fun hx => qc_sub [0] rfl hx) (tX2_expect_b15 hn hR h)
  · replace h := qc_jn u4 h
    refine And.imp_right (fun hx => qc_aload_n (qc_at qkX2_expect 5 rfl) rfl <| hx) ?_
    obtain ⟨r5, I5, L5, D5, R5, e5, h⟩ := qc_bd_of h
    have c5 := (tX2_misplaced hn hR e5)
    refine qd_cVn (ci := 2) (a0 := 267) (qc_at qkX2_expect 6 rfl) ql_2_126 qfX2_misplaced (qc_kf hn rfl) rfl c5 rfl rfl (Nat.le_of_ble_eq_true rfl) (qc_rml (by decide) (by decide)) ⟨Nat.zero_le _, Nat.zero_le _⟩ ?_
    exact And.imp_right (fun hx => qc_sub [0] rfl hx) (tX2_expect_b15 hn (c5.1.1 hR) h)
def fX2_metColumn (w : qcW) (I : qTI) (L : qTL) (D : qTD) (R : qTR) : qcO Int32 :=
  (qc_gd (qc_l62 (R 268 1)) <| if (R 268 1) = 3 then (qc_bd (fX1_laneOf w I L D R (I 268 4)) fun r3 I3 L3 D3 R3 => if r3 = (-1 : Int32) then (qc_bd (fX9_refuse w I3 L3 D3 R3 (5 : Int32) (I3 268 2)) fun r5 I5 L5 D5 R5 => some ((0 : Int32), I5, L5, D5, R5)) else (some (r3, I3, L3, D3, R3))) else (qc_bd (fX2_misplaced w I L D R) fun r6 I6 L6 D6 R6 => some ((0 : Int32), I6, L6, D6, R6)))
set_option maxRecDepth 100000 in
set_option maxHeartbeats 4000000 in
theorem tX2_metColumn {w : qcW} {I : qTI} {L : qTL} {D : qTD} {R : qTR} {r : Int32} {I' : qTI} {L' : qTL} {D' : qTD} {R' : qTR} (hn : qcNF ≤ w.1) (hR : qc_FR R) (h : fX2_metColumn w I L D R = some (r, I', L', D', R')) : qc_fm qcSX (I, L, D, R) (I', L', D', R') ∧ qc_V (2) 0 0 qmX2_metColumn [.ref 267] w (I, L, D, R) (qc_eq (some (.int r)) w (I', L', D', R')) := by
  unfold fX2_metColumn at h
  refine And.imp_right (fun hx => qc_V.of rfl rfl (Nat.le_of_ble_eq_true rfl) (lv := [(0, .ref 267)]) rfl hx) ?_
  refine And.imp_right (fun hx => qc_aload_n (qc_at qkX2_metColumn 0 rfl) rfl <| qc_gR (qc_at qkX2_metColumn 1 rfl) hn rfl (qfr_267_0 hR) rfl <| hx) ?_
  obtain ⟨g1, h⟩ := qc_gd_of h
  replace g1 := qc_l62_of g1
  refine And.imp_right (fun hx => qc_gR (qc_at qkX2_metColumn 2 rfl) hn rfl rfl (qc_ne62 g1) <| qc_gS (qc_at qkX2_metColumn 3 rfl) rfl <| hx) ?_
  refine qc_andC (qc_acmp_eq (qc_at qkX2_metColumn 4 rfl) (Or.inl g1) (Or.inl (by decide))) (fun u2 => ?_) (fun u2 => ?_)
  · replace h := qc_jp u2 h
    refine And.imp_right (fun hx => qc_aload_n (qc_at qkX2_metColumn 9 rfl) rfl <| qc_gR (qc_at qkX2_metColumn 10 rfl) hn rfl (qfr_267_1 hR) rfl <| qc_aload_n (qc_at qkX2_metColumn 11 rfl) rfl <| qc_gR (qc_at qkX2_metColumn 12 rfl) hn rfl (qfr_267_0 hR) rfl <| qc_gI (qc_at qkX2_metColumn 13 rfl) hn rfl <| hx) ?_
    obtain ⟨r3, I3, L3, D3, R3, e3, h⟩ := qc_bd_of h
    have c3 := (tX1_laneOf hn hR e3)
    refine qd_cVv (ci := 1) (a0 := 257) (qc_at qkX2_metColumn 14 rfl) ql_2_340 qfX1_laneOf (qc_kf hn rfl) rfl c3 rfl rfl (Nat.le_of_ble_eq_true rfl) (qc_rml (by decide) (by decide)) ⟨Nat.zero_le _, Nat.zero_le _⟩ ?_
    refine And.imp_right (fun hx => qc_istore_n (lv' := [(1, _), (0, _)]) (qc_at qkX2_metColumn 15 rfl) rfl rfl <| qc_iload_n (qc_at qkX2_metColumn 16 rfl) rfl <| qc_iconst (qc_at qkX2_metColumn 17 rfl) <| hx) ?_
    refine qc_andN (qc_icmp_ne (qc_at qkX2_metColumn 18 rfl)) (fun u4 => ?_) (fun u4 => ?_)
    · replace h := qc_jn u4 h
      obtain ⟨rfl, rfl, rfl, rfl, rfl⟩ := qc_some5 h
      exact ⟨qc_fm.rf _, qc_iload_n (qc_at qkX2_metColumn 28 rfl) rfl <| qc_iret (qc_at qkX2_metColumn 29 rfl) rfl (Nat.le_refl _) (Nat.le_refl _) (qc_eq.rf _ _ _)⟩
    · replace h := qc_jp u4 h
      refine And.imp_right (fun hx => qc_aload_n (qc_at qkX2_metColumn 19 rfl) rfl <| qc_gR (qc_at qkX2_metColumn 20 rfl) hn rfl (qfr_267_0 (c3.1.1 hR)) rfl <| qc_iconst (qc_at qkX2_metColumn 21 rfl) <| qc_aload_n (qc_at qkX2_metColumn 22 rfl) rfl <| qc_gR (qc_at qkX2_metColumn 23 rfl) hn rfl (qfr_267_0 (c3.1.1 hR)) rfl <| qc_gI (qc_at qkX2_metColumn 24 rfl) hn rfl <| hx) ?_
      obtain ⟨r5, I5, L5, D5, R5, e5, h⟩ := qc_bd_of h
      have c5 := (tX9_refuse hn (c3.1.1 hR) e5)
      refine qd_cVn (ci := 7) (a0 := 268) (qc_at qkX2_metColumn 25 rfl) ql_2_145 qfX9_refuse (qc_kf hn rfl) rfl c5 rfl rfl (Nat.le_of_ble_eq_true rfl) (qc_rml (by decide) (by decide)) ⟨Nat.zero_le _, Nat.zero_le _⟩ ?_
      obtain ⟨rfl, rfl, rfl, rfl, rfl⟩ := qc_some5 h
      exact ⟨qc_fm.rf _, qc_iconst (qc_at qkX2_metColumn 26 rfl) <| qc_iret (qc_at qkX2_metColumn 27 rfl) rfl (Nat.le_refl _) (Nat.le_refl _) (qc_eq.rf _ _ _)⟩
  · replace h := qc_jn u2 h
    refine And.imp_right (fun hx => qc_aload_n (qc_at qkX2_metColumn 5 rfl) rfl <| hx) ?_
    obtain ⟨r6, I6, L6, D6, R6, e6, h⟩ := qc_bd_of h
    have c6 := (tX2_misplaced hn hR e6)
    refine qd_cVn (ci := 2) (a0 := 267) (qc_at qkX2_metColumn 6 rfl) ql_2_126 qfX2_misplaced (qc_kf hn rfl) rfl c6 rfl rfl (Nat.le_of_ble_eq_true rfl) (qc_rml (by decide) (by decide)) ⟨Nat.zero_le _, Nat.zero_le _⟩ ?_
    obtain ⟨rfl, rfl, rfl, rfl, rfl⟩ := qc_some5 h
    exact ⟨qc_fm.rf _, qc_iconst (qc_at qkX2_metColumn 7 rfl) <| qc_iret (qc_at qkX2_metColumn 8 rfl) rfl (Nat.le_refl _) (Nat.le_refl _) (qc_eq.rf _ _ _)⟩
def fX2_isJoint (w : qcW) (I : qTI) (L : qTL) (D : qTD) (R : qTR) (x1 : Int32) (x2 : Int32) : qcO Bool :=
  (qc_gd (qc_l62 (R 268 1)) <| if (qc_mfV 0 (R 268 1)) < x1 then (some (false, I, L, D, R)) else (qc_gd (qc_l62 (R 268 1)) <| if x2 < (qc_mfV 0 (R 268 1)) then (some (false, I, L, D, R)) else (some (true, I, L, D, R))))
set_option maxRecDepth 100000 in
set_option maxHeartbeats 4000000 in
theorem tX2_isJoint {w : qcW} {I : qTI} {L : qTL} {D : qTD} {R : qTR} {x1 : Int32} {x2 : Int32} {r : Bool} {I' : qTI} {L' : qTL} {D' : qTD} {R' : qTR} (hn : qcNF ≤ w.1) (hR : qc_FR R) (h : fX2_isJoint w I L D R x1 x2 = some (r, I', L', D', R')) : qc_fm qcSX (I, L, D, R) (I', L', D', R') ∧ qc_V (0) 0 0 qmX2_isJoint [.ref 267, .int x1, .int x2] w (I, L, D, R) (qc_eq (some (.int (qc_b r))) w (I', L', D', R')) := by
  unfold fX2_isJoint at h
  refine And.imp_right (fun hx => qc_V.of rfl rfl (Nat.le_of_ble_eq_true rfl) (lv := [(0, .ref 267), (1, .int x1), (2, .int x2)]) rfl hx) ?_
  refine And.imp_right (fun hx => qc_aload_n (qc_at qkX2_isJoint 0 rfl) rfl <| qc_gR (qc_at qkX2_isJoint 1 rfl) hn rfl (qfr_267_0 hR) rfl <| hx) ?_
  obtain ⟨g1, h⟩ := qc_gd_of h
  replace g1 := qc_l62_of g1
  refine And.imp_right (fun hx => qc_gR (qc_at qkX2_isJoint 2 rfl) hn rfl rfl (qc_ne62 g1) <| qc_gM (qc_at qkX2_isJoint 3 rfl) g1 <| qc_iload_n (qc_at qkX2_isJoint 4 rfl) rfl <| hx) ?_
  refine qc_andC (qc_icmp_lt (qc_at qkX2_isJoint 5 rfl)) (fun u2 => ?_) (fun u2 => ?_)
  · replace h := qc_jp u2 h
    obtain ⟨rfl, rfl, rfl, rfl, rfl⟩ := qc_some5 h
    exact ⟨qc_fm.rf _, qc_iconst (qc_at qkX2_isJoint 14 rfl) <| qc_zret (qc_at qkX2_isJoint 15 rfl) rfl (Or.inl rfl) (Nat.le_refl _) (Nat.le_refl _) ⟨rfl, rfl, rfl⟩⟩
  · replace h := qc_jn u2 h
    refine And.imp_right (fun hx => qc_aload_n (qc_at qkX2_isJoint 6 rfl) rfl <| qc_gR (qc_at qkX2_isJoint 7 rfl) hn rfl (qfr_267_0 hR) rfl <| hx) ?_
    obtain ⟨g3, h⟩ := qc_gd_of h
    replace g3 := qc_l62_of g3
    refine And.imp_right (fun hx => qc_gR (qc_at qkX2_isJoint 8 rfl) hn rfl rfl (qc_ne62 g3) <| qc_gM (qc_at qkX2_isJoint 9 rfl) g3 <| qc_iload_n (qc_at qkX2_isJoint 10 rfl) rfl <| hx) ?_
    refine qc_andC (qc_icmp_gt (qc_at qkX2_isJoint 11 rfl)) (fun u4 => ?_) (fun u4 => ?_)
    · replace h := qc_jp u4 h
      obtain ⟨rfl, rfl, rfl, rfl, rfl⟩ := qc_some5 h
      exact ⟨qc_fm.rf _, qc_iconst (qc_at qkX2_isJoint 14 rfl) <| qc_zret (qc_at qkX2_isJoint 15 rfl) rfl (Or.inl rfl) (Nat.le_refl _) (Nat.le_refl _) ⟨rfl, rfl, rfl⟩⟩
    · replace h := qc_jn u4 h
      obtain ⟨rfl, rfl, rfl, rfl, rfl⟩ := qc_some5 h
      exact ⟨qc_fm.rf _, qc_iconst (qc_at qkX2_isJoint 12 rfl) <| qc_goto (qc_at qkX2_isJoint 13 rfl) <| qc_zret (qc_at qkX2_isJoint 15 rfl) rfl (Or.inr rfl) (Nat.le_refl _) (Nat.le_refl _) ⟨rfl, rfl, rfl⟩⟩
def fX2_isWhole (w : qcW) (I : qTI) (L : qTL) (D : qTD) (R : qTR) (x0 : Int32) : qcO Bool :=
  (if x0 = (1 : Int32) then (some (true, I, L, D, R)) else (if x0 = (2 : Int32) then (some (true, I, L, D, R)) else (some (false, I, L, D, R))))
set_option maxRecDepth 100000 in
set_option maxHeartbeats 4000000 in
theorem tX2_isWhole {w : qcW} {I : qTI} {L : qTL} {D : qTD} {R : qTR} {x0 : Int32} {r : Bool} {I' : qTI} {L' : qTL} {D' : qTD} {R' : qTR} (hn : qcNF ≤ w.1) (hR : qc_FR R) (h : fX2_isWhole w I L D R x0 = some (r, I', L', D', R')) : qc_fm qcSX (I, L, D, R) (I', L', D', R') ∧ qc_V (0) 0 0 qmX2_isWhole [.int x0] w (I, L, D, R) (qc_eq (some (.int (qc_b r))) w (I', L', D', R')) := by
  unfold fX2_isWhole at h
  refine And.imp_right (fun hx => qc_V.of rfl rfl (Nat.le_of_ble_eq_true rfl) (lv := [(0, .int x0)]) rfl hx) ?_
  refine And.imp_right (fun hx => qc_iload_n (qc_at qkX2_isWhole 0 rfl) rfl <| qc_iconst (qc_at qkX2_isWhole 1 rfl) <| hx) ?_
  refine qc_andC (qc_icmp_eq (qc_at qkX2_isWhole 2 rfl)) (fun u1 => ?_) (fun u1 => ?_)
  · replace h := qc_jp u1 h
    obtain ⟨rfl, rfl, rfl, rfl, rfl⟩ := qc_some5 h
    exact ⟨qc_fm.rf _, qc_iconst (qc_at qkX2_isWhole 6 rfl) <| qc_goto (qc_at qkX2_isWhole 7 rfl) <| qc_zret (qc_at qkX2_isWhole 9 rfl) rfl (Or.inr rfl) (Nat.le_refl _) (Nat.le_refl _) ⟨rfl, rfl, rfl⟩⟩
  · replace h := qc_jn u1 h
    refine And.imp_right (fun hx => qc_iload_n (qc_at qkX2_isWhole 3 rfl) rfl <| qc_iconst (qc_at qkX2_isWhole 4 rfl) <| hx) ?_
    refine qc_andN (qc_icmp_ne (qc_at qkX2_isWhole 5 rfl)) (fun u2 => ?_) (fun u2 => ?_)
    · replace h := qc_jn u2 h
      obtain ⟨rfl, rfl, rfl, rfl, rfl⟩ := qc_some5 h
      exact ⟨qc_fm.rf _, qc_iconst (qc_at qkX2_isWhole 8 rfl) <| qc_zret (qc_at qkX2_isWhole 9 rfl) rfl (Or.inl rfl) (Nat.le_refl _) (Nat.le_refl _) ⟨rfl, rfl, rfl⟩⟩
    · replace h := qc_jp u2 h
      obtain ⟨rfl, rfl, rfl, rfl, rfl⟩ := qc_some5 h
      exact ⟨qc_fm.rf _, qc_iconst (qc_at qkX2_isWhole 6 rfl) <| qc_goto (qc_at qkX2_isWhole 7 rfl) <| qc_zret (qc_at qkX2_isWhole 9 rfl) rfl (Or.inr rfl) (Nat.le_refl _) (Nat.le_refl _) ⟨rfl, rfl, rfl⟩⟩
def fX2_fits_b125 (w : qcW) (I : qTI) (L : qTL) (D : qTD) (R : qTR) (x3 : Int32) (x5 : Int32) : qcO Bool :=
  (if x3 = 0 then (some (false, I, L, D, R)) else (if x5 = 0 then (some (false, I, L, D, R)) else (some (true, I, L, D, R))))
set_option maxRecDepth 100000 in
set_option maxHeartbeats 4000000 in
theorem tX2_fits_b125 {w : qcW} {I : qTI} {L : qTL} {D : qTD} {R : qTR} {x3 : Int32} {x5 : Int32} {r : Bool} {I' : qTI} {L' : qTL} {D' : qTD} {R' : qTR} (hn : qcNF ≤ w.1) (hR : qc_FR R) (h : fX2_fits_b125 w I L D R x3 x5 = some (r, I', L', D', R')) : qc_fm qcSX (I, L, D, R) (I', L', D', R') ∧ qc_X (qc_rm (1) 0 0) qmX2_fits (qc_QM 0 0 (qc_eq (some (.int (qc_b r))) w (I', L', D', R'))) 0 0 w (125, [(3, .int x3), (5, .int x5)], [], I, L, D, R) := by
  unfold fX2_fits_b125 at h
  refine And.imp_right (fun hx => qc_iload_n (qc_at qkX2_fits 47 rfl) rfl <| hx) ?_
  refine qc_andC (qc_if_eq (qc_at qkX2_fits 48 rfl)) (fun u1 => ?_) (fun u1 => ?_)
  · replace h := qc_jp u1 h
    obtain ⟨rfl, rfl, rfl, rfl, rfl⟩ := qc_some5 h
    exact ⟨qc_fm.rf _, qc_iconst (qc_at qkX2_fits 53 rfl) <| qc_zret (qc_at qkX2_fits 54 rfl) rfl (Or.inl rfl) (Nat.le_refl _) (Nat.le_refl _) ⟨rfl, rfl, rfl⟩⟩
  · replace h := qc_jn u1 h
    refine And.imp_right (fun hx => qc_iload (qc_at qkX2_fits 49 rfl) rfl <| hx) ?_
    refine qc_andC (qc_if_eq (qc_at qkX2_fits 50 rfl)) (fun u2 => ?_) (fun u2 => ?_)
    · replace h := qc_jp u2 h
      obtain ⟨rfl, rfl, rfl, rfl, rfl⟩ := qc_some5 h
      exact ⟨qc_fm.rf _, qc_iconst (qc_at qkX2_fits 53 rfl) <| qc_zret (qc_at qkX2_fits 54 rfl) rfl (Or.inl rfl) (Nat.le_refl _) (Nat.le_refl _) ⟨rfl, rfl, rfl⟩⟩
    · replace h := qc_jn u2 h
      obtain ⟨rfl, rfl, rfl, rfl, rfl⟩ := qc_some5 h
      exact ⟨qc_fm.rf _, qc_iconst (qc_at qkX2_fits 51 rfl) <| qc_goto (qc_at qkX2_fits 52 rfl) <| qc_zret (qc_at qkX2_fits 54 rfl) rfl (Or.inr rfl) (Nat.le_refl _) (Nat.le_refl _) ⟨rfl, rfl, rfl⟩⟩
def fX2_fits_b115 (w : qcW) (I : qTI) (L : qTL) (D : qTD) (R : qTR) (x1 : Int32) (x2 : Int32) (x3 : Int32) (s0 : Int32) : qcO Bool :=
  (if x1 = 0 then (fX2_fits_b125 w I L D R x3 s0) else (if x2 = 0 then (fX2_fits_b125 w I L D R x3 s0) else (some (true, I, L, D, R))))
set_option maxRecDepth 100000 in
set_option maxHeartbeats 4000000 in
theorem tX2_fits_b115 {w : qcW} {I : qTI} {L : qTL} {D : qTD} {R : qTR} {x1 : Int32} {x2 : Int32} {x3 : Int32} {s0 : Int32} {r : Bool} {I' : qTI} {L' : qTL} {D' : qTD} {R' : qTR} (hn : qcNF ≤ w.1) (hR : qc_FR R) (h : fX2_fits_b115 w I L D R x1 x2 x3 s0 = some (r, I', L', D', R')) : qc_fm qcSX (I, L, D, R) (I', L', D', R') ∧ qc_X (qc_rm (1) 0 0) qmX2_fits (qc_QM 0 0 (qc_eq (some (.int (qc_b r))) w (I', L', D', R'))) 0 0 w (115, [(1, .int x1), (2, .int x2), (3, .int x3)], [.int s0], I, L, D, R) := by
  unfold fX2_fits_b115 at h
  refine And.imp_right (fun hx => qc_istore (lv' := [(5, _), (1, _), (2, _), (3, _)]) (qc_at qkX2_fits 42 rfl) rfl rfl <| qc_iload_n (qc_at qkX2_fits 43 rfl) rfl <| hx) ?_
  refine qc_andC (qc_if_eq (qc_at qkX2_fits 44 rfl)) (fun u3 => ?_) (fun u3 => ?_)
  · replace h := qc_jp u3 h
    exact And.imp_right (fun hx => qc_sub [3, 0] rfl hx) (tX2_fits_b125 hn hR h)
  · replace h := qc_jn u3 h
    refine And.imp_right (fun hx => qc_iload_n (qc_at qkX2_fits 45 rfl) rfl <| hx) ?_
    refine qc_andN (qc_if_ne (qc_at qkX2_fits 46 rfl)) (fun u4 => ?_) (fun u4 => ?_)
    · replace h := qc_jn u4 h
      obtain ⟨rfl, rfl, rfl, rfl, rfl⟩ := qc_some5 h
      exact ⟨qc_fm.rf _, qc_iconst (qc_at qkX2_fits 51 rfl) <| qc_goto (qc_at qkX2_fits 52 rfl) <| qc_zret (qc_at qkX2_fits 54 rfl) rfl (Or.inr rfl) (Nat.le_refl _) (Nat.le_refl _) ⟨rfl, rfl, rfl⟩⟩
    · replace h := qc_jp u4 h
      exact And.imp_right (fun hx => qc_sub [3, 0] rfl hx) (tX2_fits_b125 hn hR h)
def fX2_fits_b110 (w : qcW) (I : qTI) (L : qTL) (D : qTD) (R : qTR) (x1 : Int32) (x2 : Int32) (x3 : Int32) : qcO Bool :=
  (fX2_fits_b115 w I L D R x1 x2 x3 (1 : Int32))
set_option maxRecDepth 100000 in
set_option maxHeartbeats 4000000 in
theorem tX2_fits_b110 {w : qcW} {I : qTI} {L : qTL} {D : qTD} {R : qTR} {x1 : Int32} {x2 : Int32} {x3 : Int32} {r : Bool} {I' : qTI} {L' : qTL} {D' : qTD} {R' : qTR} (hn : qcNF ≤ w.1) (hR : qc_FR R) (h : fX2_fits_b110 w I L D R x1 x2 x3 = some (r, I', L', D', R')) : qc_fm qcSX (I, L, D, R) (I', L', D', R') ∧ qc_X (qc_rm (1) 0 0) qmX2_fits (qc_QM 0 0 (qc_eq (some (.int (qc_b r))) w (I', L', D', R'))) 0 0 w (110, [(1, .int x1), (2, .int x2), (3, .int x3)], [], I, L, D, R) := by
  unfold fX2_fits_b110 at h
  exact And.imp_right (fun hx => qc_iconst (qc_at qkX2_fits 39 rfl) <| qc_goto (qc_at qkX2_fits 40 rfl) <| qc_sub [0, 1, 2] rfl hx) (tX2_fits_b115 hn hR h)
def fX2_fits_b96 (w : qcW) (I : qTI) (L : qTL) (D : qTD) (R : qTR) (x0 : Nat) (x1 : Int32) (x2 : Int32) (x3 : Int32) : qcO Bool :=
  (qc_gd (qc_l62 x0) <| (if x0 = 36 then (fX2_fits_b110 w I L D R x1 x2 x3) else (if x0 = 37 then (fX2_fits_b110 w I L D R x1 x2 x3) else (fX2_fits_b115 w I L D R x1 x2 x3 (0 : Int32)))))
set_option maxRecDepth 100000 in
set_option maxHeartbeats 4000000 in
theorem tX2_fits_b96 {w : qcW} {I : qTI} {L : qTL} {D : qTD} {R : qTR} {x0 : Nat} {x1 : Int32} {x2 : Int32} {x3 : Int32} {r : Bool} {I' : qTI} {L' : qTL} {D' : qTD} {R' : qTR} (hn : qcNF ≤ w.1) (hR : qc_FR R) (h : fX2_fits_b96 w I L D R x0 x1 x2 x3 = some (r, I', L', D', R')) : qc_fm qcSX (I, L, D, R) (I', L', D', R') ∧ qc_X (qc_rm (1) 0 0) qmX2_fits (qc_QM 0 0 (qc_eq (some (.int (qc_b r))) w (I', L', D', R'))) 0 0 w (96, [(0, .ref x0), (1, .int x1), (2, .int x2), (3, .int x3)], [], I, L, D, R) := by
  unfold fX2_fits_b96 at h
  obtain ⟨g5, h⟩ := qc_gd_of h
  replace g5 := qc_l62_of g5
  refine And.imp_right (fun hx => qc_aload_n (qc_at qkX2_fits 33 rfl) rfl <| qc_gS (qc_at qkX2_fits 34 rfl) rfl <| hx) ?_
  refine qc_andC (qc_acmp_eq (qc_at qkX2_fits 35 rfl) (Or.inl g5) (Or.inl (by decide))) (fun u6 => ?_) (fun u6 => ?_)
  · replace h := qc_jp u6 h
    exact And.imp_right (fun hx => qc_sub [1, 2, 3] rfl hx) (tX2_fits_b110 hn hR h)
  · replace h := qc_jn u6 h
    refine And.imp_right (fun hx => qc_aload_n (qc_at qkX2_fits 36 rfl) rfl <| qc_gS (qc_at qkX2_fits 37 rfl) rfl <| hx) ?_
    refine qc_andN (qc_acmp_ne (qc_at qkX2_fits 38 rfl) (Or.inl g5) (Or.inl (by decide))) (fun u7 => ?_) (fun u7 => ?_)
    · replace h := qc_jn u7 h
      exact And.imp_right (fun hx => qc_iconst (qc_at qkX2_fits 41 rfl) <| qc_sub [1, 2, 3] rfl hx) (tX2_fits_b115 hn hR h)
    · replace h := qc_jp u7 h
      exact And.imp_right (fun hx => qc_sub [1, 2, 3] rfl hx) (tX2_fits_b110 hn hR h)
def fX2_fits_b33 (w : qcW) (I : qTI) (L : qTL) (D : qTD) (R : qTR) (x0 : Nat) (x1 : Int32) (x2 : Int32) (x3 : Int32) (s0 : Int32) : qcO Bool :=
  (qc_gd (qc_l62 x0) <| (if (qc_mfV 0 x0) = 0 then (qc_gd (qc_01 x3) <| some ((qc_isT x3), I, L, D, R)) else if (qc_mfV 0 x0) = 1 then (qc_gd (qc_01 x3) <| some ((qc_isT x3), I, L, D, R)) else if (qc_mfV 0 x0) = 2 then (fX2_fits_b96 w I L D R x0 x1 x2 x3) else if (qc_mfV 0 x0) = 3 then (fX2_fits_b96 w I L D R x0 x1 x2 x3) else if (qc_mfV 0 x0) = 4 then (if x3 = 0 then (if s0 = 0 then (some (false, I, L, D, R)) else (some (true, I, L, D, R))) else (some (true, I, L, D, R))) else if (qc_mfV 0 x0) = 5 then (qc_gd (qc_01 s0) <| some ((qc_isT s0), I, L, D, R)) else (fX2_fits_b96 w I L D R x0 x1 x2 x3)))
set_option maxRecDepth 100000 in
set_option maxHeartbeats 4000000 in
theorem tX2_fits_b33 {w : qcW} {I : qTI} {L : qTL} {D : qTD} {R : qTR} {x0 : Nat} {x1 : Int32} {x2 : Int32} {x3 : Int32} {s0 : Int32} {r : Bool} {I' : qTI} {L' : qTL} {D' : qTD} {R' : qTR} (hn : qcNF ≤ w.1) (hR : qc_FR R) (h : fX2_fits_b33 w I L D R x0 x1 x2 x3 s0 = some (r, I', L', D', R')) : qc_fm qcSX (I, L, D, R) (I', L', D', R') ∧ qc_X (qc_rm (1) 0 0) qmX2_fits (qc_QM 0 0 (qc_eq (some (.int (qc_b r))) w (I', L', D', R'))) 0 0 w (33, [(0, .ref x0), (1, .int x1), (2, .int x2), (3, .int x3)], [.int s0], I, L, D, R) := by
  unfold fX2_fits_b33 at h
  obtain ⟨g8, h⟩ := qc_gd_of h
  replace g8 := qc_l62_of g8
  refine And.imp_right (fun hx => qc_istore (lv' := [(4, _), (0, _), (1, _), (2, _), (3, _)]) (qc_at qkX2_fits 17 rfl) rfl rfl <| qc_aload_n (qc_at qkX2_fits 18 rfl) rfl <| qc_gM (qc_at qkX2_fits 19 rfl) g8 <| hx) ?_
  refine qc_by (c := (qc_mfV 0 x0) = 0) (fun u9 => ?_) (fun u9 => ?_)
  · refine And.imp_right (fun hx => qc_tabIn (qc_at qkX2_fits 20 rfl) 0 (by rw [u9]; rfl) (by decide) rfl rfl hx) ?_
    replace h := qc_jp u9 h
    obtain ⟨g10, h⟩ := qc_gd_of h
    obtain ⟨rfl, rfl, rfl, rfl, rfl⟩ := qc_some5 h
    exact ⟨qc_fm.rf _, qc_iload_n (qc_at qkX2_fits 21 rfl) rfl <| qc_zret (qc_at qkX2_fits 22 rfl) rfl (qc_01_of g10) (Nat.le_refl _) (Nat.le_refl _) ⟨by rw [qc_isT_b g10], rfl, rfl⟩⟩
  · replace h := qc_jn u9 h
    refine qc_by (c := (qc_mfV 0 x0) = 1) (fun u11 => ?_) (fun u11 => ?_)
    · refine And.imp_right (fun hx => qc_tabIn (qc_at qkX2_fits 20 rfl) 1 (by rw [u11]; rfl) (by decide) rfl rfl hx) ?_
      replace h := qc_jp u11 h
      obtain ⟨g12, h⟩ := qc_gd_of h
      obtain ⟨rfl, rfl, rfl, rfl, rfl⟩ := qc_some5 h
      exact ⟨qc_fm.rf _, qc_iload_n (qc_at qkX2_fits 21 rfl) rfl <| qc_zret (qc_at qkX2_fits 22 rfl) rfl (qc_01_of g12) (Nat.le_refl _) (Nat.le_refl _) ⟨by rw [qc_isT_b g12], rfl, rfl⟩⟩
    · replace h := qc_jn u11 h
      refine qc_by (c := (qc_mfV 0 x0) = 2) (fun u13 => ?_) (fun u13 => ?_)
      · refine And.imp_right (fun hx => qc_tabIn (qc_at qkX2_fits 20 rfl) 2 (by rw [u13]; rfl) (by decide) rfl rfl hx) ?_
        replace h := qc_jp u13 h
        exact And.imp_right (fun hx => qc_sub [1, 2, 3, 4] rfl hx) (tX2_fits_b96 hn hR h)
      · replace h := qc_jn u13 h
        refine qc_by (c := (qc_mfV 0 x0) = 3) (fun u14 => ?_) (fun u14 => ?_)
        · refine And.imp_right (fun hx => qc_tabIn (qc_at qkX2_fits 20 rfl) 3 (by rw [u14]; rfl) (by decide) rfl rfl hx) ?_
          replace h := qc_jp u14 h
          exact And.imp_right (fun hx => qc_sub [1, 2, 3, 4] rfl hx) (tX2_fits_b96 hn hR h)
        · replace h := qc_jn u14 h
          refine qc_by (c := (qc_mfV 0 x0) = 4) (fun u15 => ?_) (fun u15 => ?_)
          · refine And.imp_right (fun hx => qc_tabIn (qc_at qkX2_fits 20 rfl) 4 (by rw [u15]; rfl) (by decide) rfl rfl hx) ?_
            replace h := qc_jp u15 h
            refine And.imp_right (fun hx => qc_iload_n (qc_at qkX2_fits 23 rfl) rfl <| hx) ?_
            refine qc_andN (qc_if_ne (qc_at qkX2_fits 24 rfl)) (fun u16 => ?_) (fun u16 => ?_)
            · replace h := qc_jn u16 h
              obtain ⟨rfl, rfl, rfl, rfl, rfl⟩ := qc_some5 h
              exact ⟨qc_fm.rf _, qc_iconst (qc_at qkX2_fits 27 rfl) <| qc_goto (qc_at qkX2_fits 28 rfl) <| qc_zret (qc_at qkX2_fits 30 rfl) rfl (Or.inr rfl) (Nat.le_refl _) (Nat.le_refl _) ⟨rfl, rfl, rfl⟩⟩
            · replace h := qc_jp u16 h
              refine And.imp_right (fun hx => qc_iload (qc_at qkX2_fits 25 rfl) rfl <| hx) ?_
              refine qc_andC (qc_if_eq (qc_at qkX2_fits 26 rfl)) (fun u17 => ?_) (fun u17 => ?_)
              · replace h := qc_jp u17 h
                obtain ⟨rfl, rfl, rfl, rfl, rfl⟩ := qc_some5 h
                exact ⟨qc_fm.rf _, qc_iconst (qc_at qkX2_fits 29 rfl) <| qc_zret (qc_at qkX2_fits 30 rfl) rfl (Or.inl rfl) (Nat.le_refl _) (Nat.le_refl _) ⟨rfl, rfl, rfl⟩⟩
              · replace h := qc_jn u17 h
                obtain ⟨rfl, rfl, rfl, rfl, rfl⟩ := qc_some5 h
                exact ⟨qc_fm.rf _, qc_iconst (qc_at qkX2_fits 27 rfl) <| qc_goto (qc_at qkX2_fits 28 rfl) <| qc_zret (qc_at qkX2_fits 30 rfl) rfl (Or.inr rfl) (Nat.le_refl _) (Nat.le_refl _) ⟨rfl, rfl, rfl⟩⟩
          · replace h := qc_jn u15 h
            refine qc_by (c := (qc_mfV 0 x0) = 5) (fun u18 => ?_) (fun u18 => ?_)
            · refine And.imp_right (fun hx => qc_tabIn (qc_at qkX2_fits 20 rfl) 5 (by rw [u18]; rfl) (by decide) rfl rfl hx) ?_
              replace h := qc_jp u18 h
              obtain ⟨g19, h⟩ := qc_gd_of h
              obtain ⟨rfl, rfl, rfl, rfl, rfl⟩ := qc_some5 h
              exact ⟨qc_fm.rf _, qc_iload (qc_at qkX2_fits 31 rfl) rfl <| qc_zret (qc_at qkX2_fits 32 rfl) rfl (qc_01_of g19) (Nat.le_refl _) (Nat.le_refl _) ⟨by rw [qc_isT_b g19], rfl, rfl⟩⟩
            · replace h := qc_jn u18 h
              have v9 : ¬ Int32.toInt (qc_mfV 0 x0) = 0 := fun z => u9 (qc_i32 z rfl)
              have v11 : ¬ Int32.toInt (qc_mfV 0 x0) = 1 := fun z => u11 (qc_i32 z rfl)
              have v13 : ¬ Int32.toInt (qc_mfV 0 x0) = 2 := fun z => u13 (qc_i32 z rfl)
              have v14 : ¬ Int32.toInt (qc_mfV 0 x0) = 3 := fun z => u14 (qc_i32 z rfl)
              have v15 : ¬ Int32.toInt (qc_mfV 0 x0) = 4 := fun z => u15 (qc_i32 z rfl)
              have v18 : ¬ Int32.toInt (qc_mfV 0 x0) = 5 := fun z => u18 (qc_i32 z rfl)
              refine And.imp_right (fun hx => qc_tabOut (qc_at qkX2_fits 20 rfl) (by omega) rfl hx) ?_
              exact And.imp_right (fun hx => qc_sub [1, 2, 3, 4] rfl hx) (tX2_fits_b96 hn hR h)
def fX2_fits_b32 (w : qcW) (I : qTI) (L : qTL) (D : qTD) (R : qTR) (x0 : Nat) (x1 : Int32) (x2 : Int32) (x3 : Int32) : qcO Bool :=
  (qc_gd (qc_l62 x0) <| (fX2_fits_b33 w I L D R x0 x1 x2 x3 (0 : Int32)))
set_option maxRecDepth 100000 in
set_option maxHeartbeats 4000000 in
theorem tX2_fits_b32 {w : qcW} {I : qTI} {L : qTL} {D : qTD} {R : qTR} {x0 : Nat} {x1 : Int32} {x2 : Int32} {x3 : Int32} {r : Bool} {I' : qTI} {L' : qTL} {D' : qTD} {R' : qTR} (hn : qcNF ≤ w.1) (hR : qc_FR R) (h : fX2_fits_b32 w I L D R x0 x1 x2 x3 = some (r, I', L', D', R')) : qc_fm qcSX (I, L, D, R) (I', L', D', R') ∧ qc_X (qc_rm (1) 0 0) qmX2_fits (qc_QM 0 0 (qc_eq (some (.int (qc_b r))) w (I', L', D', R'))) 0 0 w (32, [(0, .ref x0), (1, .int x1), (2, .int x2), (3, .int x3)], [], I, L, D, R) := by
  unfold fX2_fits_b32 at h
  obtain ⟨g20, h⟩ := qc_gd_of h
  replace g20 := qc_l62_of g20
  exact And.imp_right (fun hx => qc_iconst (qc_at qkX2_fits 16 rfl) <| qc_sub [0, 1, 2, 3] rfl hx) (tX2_fits_b33 hn hR h)
def fX2_fits_b13 (w : qcW) (I : qTI) (L : qTL) (D : qTD) (R : qTR) (x0 : Nat) (x1 : Int32) (x2 : Int32) (s0 : Int32) : qcO Bool :=
  (qc_gd (qc_l62 x0) <| (qc_bd (fX2_isWhole w I L D R x1) fun r22 I22 L22 D22 R22 => if r22 = true then (qc_bd (fX2_isWhole w I22 L22 D22 R22 x2) fun r24 I24 L24 D24 R24 => if r24 = true then (fX2_fits_b33 w I24 L24 D24 R24 x0 x1 x2 s0 (1 : Int32)) else (fX2_fits_b32 w I24 L24 D24 R24 x0 x1 x2 s0)) else (fX2_fits_b32 w I22 L22 D22 R22 x0 x1 x2 s0)))
set_option maxRecDepth 100000 in
set_option maxHeartbeats 4000000 in
theorem tX2_fits_b13 {w : qcW} {I : qTI} {L : qTL} {D : qTD} {R : qTR} {x0 : Nat} {x1 : Int32} {x2 : Int32} {s0 : Int32} {r : Bool} {I' : qTI} {L' : qTL} {D' : qTD} {R' : qTR} (hn : qcNF ≤ w.1) (hR : qc_FR R) (h : fX2_fits_b13 w I L D R x0 x1 x2 s0 = some (r, I', L', D', R')) : qc_fm qcSX (I, L, D, R) (I', L', D', R') ∧ qc_X (qc_rm (1) 0 0) qmX2_fits (qc_QM 0 0 (qc_eq (some (.int (qc_b r))) w (I', L', D', R'))) 0 0 w (13, [(0, .ref x0), (1, .int x1), (2, .int x2)], [.int s0], I, L, D, R) := by
  unfold fX2_fits_b13 at h
  obtain ⟨g21, h⟩ := qc_gd_of h
  replace g21 := qc_l62_of g21
  refine And.imp_right (fun hx => qc_istore_n (lv' := [(3, _), (0, _), (1, _), (2, _)]) (qc_at qkX2_fits 7 rfl) rfl rfl <| qc_iload_n (qc_at qkX2_fits 8 rfl) rfl <| hx) ?_
  obtain ⟨r22, I22, L22, D22, R22, e22, h⟩ := qc_bd_of h
  have c22 := (tX2_isWhole hn hR e22)
  refine qd_cSv (qc_at qkX2_fits 9 rfl) ql_2_109 qfX2_isWhole c22 rfl rfl (Nat.le_of_ble_eq_true rfl) (qc_rml (by decide) (by decide)) ⟨Nat.zero_le _, Nat.zero_le _⟩ ?_
  refine qc_andB (qc_ifB_eq (qc_at qkX2_fits 10 rfl)) (fun u23 => ?_) (fun u23 => ?_)
  · replace h := qc_jf u23 h
    exact And.imp_right (fun hx => qc_sub [1, 2, 3, 0] rfl hx) (tX2_fits_b32 hn (c22.1.1 hR) h)
  · replace h := qc_jt u23 h
    refine And.imp_right (fun hx => qc_iload_n (qc_at qkX2_fits 11 rfl) rfl <| hx) ?_
    obtain ⟨r24, I24, L24, D24, R24, e24, h⟩ := qc_bd_of h
    have c24 := (tX2_isWhole hn (c22.1.1 hR) e24)
    refine qd_cSv (qc_at qkX2_fits 12 rfl) ql_2_109 qfX2_isWhole c24 rfl rfl (Nat.le_of_ble_eq_true rfl) (qc_rml (by decide) (by decide)) ⟨Nat.zero_le _, Nat.zero_le _⟩ ?_
    refine qc_andB (qc_ifB_eq (qc_at qkX2_fits 13 rfl)) (fun u25 => ?_) (fun u25 => ?_)
    · replace h := qc_jf u25 h
      exact And.imp_right (fun hx => qc_sub [1, 2, 3, 0] rfl hx) (tX2_fits_b32 hn (c24.1.1 (c22.1.1 hR)) h)
    · replace h := qc_jt u25 h
      exact And.imp_right (fun hx => qc_iconst (qc_at qkX2_fits 14 rfl) <| qc_goto (qc_at qkX2_fits 15 rfl) <| qc_sub [1, 2, 3, 0] rfl hx) (tX2_fits_b33 hn (c24.1.1 (c22.1.1 hR)) h)
def fX2_fits_b12 (w : qcW) (I : qTI) (L : qTL) (D : qTD) (R : qTR) (x0 : Nat) (x1 : Int32) (x2 : Int32) : qcO Bool :=
  (qc_gd (qc_l62 x0) <| (fX2_fits_b13 w I L D R x0 x1 x2 (0 : Int32)))
set_option maxRecDepth 100000 in
set_option maxHeartbeats 4000000 in
theorem tX2_fits_b12 {w : qcW} {I : qTI} {L : qTL} {D : qTD} {R : qTR} {x0 : Nat} {x1 : Int32} {x2 : Int32} {r : Bool} {I' : qTI} {L' : qTL} {D' : qTD} {R' : qTR} (hn : qcNF ≤ w.1) (hR : qc_FR R) (h : fX2_fits_b12 w I L D R x0 x1 x2 = some (r, I', L', D', R')) : qc_fm qcSX (I, L, D, R) (I', L', D', R') ∧ qc_X (qc_rm (1) 0 0) qmX2_fits (qc_QM 0 0 (qc_eq (some (.int (qc_b r))) w (I', L', D', R'))) 0 0 w (12, [(0, .ref x0), (1, .int x1), (2, .int x2)], [], I, L, D, R) := by
  unfold fX2_fits_b12 at h
  obtain ⟨g26, h⟩ := qc_gd_of h
  replace g26 := qc_l62_of g26
  exact And.imp_right (fun hx => qc_iconst (qc_at qkX2_fits 6 rfl) <| qc_sub [0, 1, 2] rfl hx) (tX2_fits_b13 hn hR h)
def fX2_fits (w : qcW) (I : qTI) (L : qTL) (D : qTD) (R : qTR) (x0 : Nat) (x1 : Int32) (x2 : Int32) : qcO Bool :=
  (qc_gd (qc_l62 x0) <| (if x1 = 0 then (if x2 = 0 then (fX2_fits_b13 w I L D R x0 x1 x2 (1 : Int32)) else (fX2_fits_b12 w I L D R x0 x1 x2)) else (fX2_fits_b12 w I L D R x0 x1 x2)))
set_option maxRecDepth 100000 in
set_option maxHeartbeats 4000000 in
theorem tX2_fits {w : qcW} {I : qTI} {L : qTL} {D : qTD} {R : qTR} {x0 : Nat} {x1 : Int32} {x2 : Int32} {r : Bool} {I' : qTI} {L' : qTL} {D' : qTD} {R' : qTR} (hn : qcNF ≤ w.1) (hR : qc_FR R) (h : fX2_fits w I L D R x0 x1 x2 = some (r, I', L', D', R')) : qc_fm qcSX (I, L, D, R) (I', L', D', R') ∧ qc_V (1) 0 0 qmX2_fits [.ref x0, .int x1, .int x2] w (I, L, D, R) (qc_eq (some (.int (qc_b r))) w (I', L', D', R')) := by
  unfold fX2_fits at h
  refine And.imp_right (fun hx => qc_V.of rfl rfl (Nat.le_of_ble_eq_true rfl) (lv := [(0, .ref x0), (1, .int x1), (2, .int x2)]) rfl hx) ?_
  obtain ⟨g27, h⟩ := qc_gd_of h
  replace g27 := qc_l62_of g27
  refine And.imp_right (fun hx => qc_iload_n (qc_at qkX2_fits 0 rfl) rfl <| hx) ?_
  refine qc_andN (qc_if_ne (qc_at qkX2_fits 1 rfl)) (fun u28 => ?_) (fun u28 => ?_)
  · replace h := qc_jn u28 h
    exact And.imp_right (fun hx => qc_sub [0, 1, 2] rfl hx) (tX2_fits_b12 hn hR h)
  · replace h := qc_jp u28 h
    refine And.imp_right (fun hx => qc_iload_n (qc_at qkX2_fits 2 rfl) rfl <| hx) ?_
    refine qc_andN (qc_if_ne (qc_at qkX2_fits 3 rfl)) (fun u29 => ?_) (fun u29 => ?_)
    · replace h := qc_jn u29 h
      exact And.imp_right (fun hx => qc_sub [0, 1, 2] rfl hx) (tX2_fits_b12 hn hR h)
    · replace h := qc_jp u29 h
      exact And.imp_right (fun hx => qc_iconst (qc_at qkX2_fits 4 rfl) <| qc_goto (qc_at qkX2_fits 5 rfl) <| qc_sub [0, 1, 2] rfl hx) (tX2_fits_b13 hn hR h)
def fX2_joinTruths_b43 (w : qcW) (I : qTI) (L : qTL) (D : qTD) (R : qTR) (x3 : Int32) (s0 : Int32) (s1 : Int32) (s2 : Nat) : qcO Int32 :=
  (qc_gd (qc_io w s2 0) <| (qc_bd (fX0_add w I L D R s2 s1 s0) fun r2 I2 L2 D2 R2 => qc_gd (qc_io w (R2 267 4) 0) <| qc_bd (fX0_aim w I2 L2 D2 R2 (R2 267 4) x3) fun r4 I4 L4 D4 R4 => some ((0 : Int32), I4, L4, D4, R4)))
set_option maxRecDepth 100000 in
set_option maxHeartbeats 4000000 in
theorem tX2_joinTruths_b43 {w : qcW} {I : qTI} {L : qTL} {D : qTD} {R : qTR} {x3 : Int32} {s0 : Int32} {s1 : Int32} {s2 : Nat} {r : Int32} {I' : qTI} {L' : qTL} {D' : qTD} {R' : qTR} (hn : qcNF ≤ w.1) (hR : qc_FR R) (h : fX2_joinTruths_b43 w I L D R x3 s0 s1 s2 = some (r, I', L', D', R')) : qc_fm qcSX (I, L, D, R) (I', L', D', R') ∧ qc_X (qc_rm (3) 0 0) qmX2_joinTruths (qc_QM 0 0 (qc_eq (some (.int r)) w (I', L', D', R'))) 0 0 w (43, [(0, .ref 267), (3, .int x3)], [.int s0, .int s1, .ref s2], I, L, D, R) := by
  unfold fX2_joinTruths_b43 at h
  obtain ⟨g1, h⟩ := qc_gd_of h
  replace g1 := qc_io_of g1
  obtain ⟨r2, I2, L2, D2, R2, e2, h⟩ := qc_bd_of h
  have c2 := (tX0_add hn hR e2)
  refine qd_cVn (ci := 0) (qc_at qkX2_joinTruths 21 rfl) ql_2_207 qfX0_add g1 rfl c2 rfl rfl (Nat.le_of_ble_eq_true rfl) (qc_rml (by decide) (by decide)) ⟨Nat.zero_le _, Nat.zero_le _⟩ ?_
  refine And.imp_right (fun hx => qc_aload_n (qc_at qkX2_joinTruths 22 rfl) rfl <| hx) ?_
  obtain ⟨g3, h⟩ := qc_gd_of h
  replace g3 := qc_io_of g3
  refine And.imp_right (fun hx => qc_gR (qc_at qkX2_joinTruths 23 rfl) hn rfl rfl (qc_ki255 g3) <| qc_iload_n (qc_at qkX2_joinTruths 24 rfl) rfl <| hx) ?_
  obtain ⟨r4, I4, L4, D4, R4, e4, h⟩ := qc_bd_of h
  have c4 := (tX0_aim hn (c2.1.1 hR) e4)
  refine qd_cVn (ci := 0) (qc_at qkX2_joinTruths 25 rfl) ql_2_233 qfX0_aim g3 rfl c4 rfl rfl (Nat.le_of_ble_eq_true rfl) (qc_rml (by decide) (by decide)) ⟨Nat.zero_le _, Nat.zero_le _⟩ ?_
  obtain ⟨rfl, rfl, rfl, rfl, rfl⟩ := qc_some5 h
  exact ⟨qc_fm.rf _, qc_iconst (qc_at qkX2_joinTruths 26 rfl) <| qc_iret (qc_at qkX2_joinTruths 27 rfl) rfl (Nat.le_refl _) (Nat.le_refl _) (qc_eq.rf _ _ _)⟩
def fX2_joinTruths (w : qcW) (I : qTI) (L : qTL) (D : qTD) (R : qTR) (x1 : Nat) (x2 : Int32) : qcO Int32 :=
  (qc_gd (qc_l62 x1) <| (qc_gd (qc_io w (R 267 4) 0) <| qc_bd (fX0_addJump w I L D R (R 267 4) (1802 : Int32)) fun r7 I7 L7 D7 R7 => qc_gd (qc_io w (R7 267 4) 0) <| qc_bd (fX0_aim w I7 L7 D7 R7 (R7 267 4) x2) fun r9 I9 L9 D9 R9 => qc_gd (qc_io w (R9 267 4) 0) <| qc_bd (fX0_otherWay w I9 L9 D9 R9 (R9 267 4)) fun r11 I11 L11 D11 R11 => qc_gd (qc_io w (R11 267 4) 0) <| if x1 = 20 then (fX2_joinTruths_b43 w I11 L11 D11 R11 r7 (1 : Int32) (1 : Int32) (R11 267 4)) else (fX2_joinTruths_b43 w I11 L11 D11 R11 r7 (0 : Int32) (1 : Int32) (R11 267 4))))
set_option maxRecDepth 100000 in
set_option maxHeartbeats 4000000 in
theorem tX2_joinTruths {w : qcW} {I : qTI} {L : qTL} {D : qTD} {R : qTR} {x1 : Nat} {x2 : Int32} {r : Int32} {I' : qTI} {L' : qTL} {D' : qTD} {R' : qTR} (hn : qcNF ≤ w.1) (hR : qc_FR R) (h : fX2_joinTruths w I L D R x1 x2 = some (r, I', L', D', R')) : qc_fm qcSX (I, L, D, R) (I', L', D', R') ∧ qc_V (3) 0 0 qmX2_joinTruths [.ref 267, .ref x1, .int x2] w (I, L, D, R) (qc_eq (some (.int r)) w (I', L', D', R')) := by
  unfold fX2_joinTruths at h
  refine And.imp_right (fun hx => qc_V.of rfl rfl (Nat.le_of_ble_eq_true rfl) (lv := [(0, .ref 267), (1, .ref x1), (2, .int x2)]) rfl hx) ?_
  obtain ⟨g5, h⟩ := qc_gd_of h
  replace g5 := qc_l62_of g5
  refine And.imp_right (fun hx => qc_aload_n (qc_at qkX2_joinTruths 0 rfl) rfl <| hx) ?_
  obtain ⟨g6, h⟩ := qc_gd_of h
  replace g6 := qc_io_of g6
  refine And.imp_right (fun hx => qc_gR (qc_at qkX2_joinTruths 1 rfl) hn rfl rfl (qc_ki255 g6) <| qc_sipush (qc_at qkX2_joinTruths 2 rfl) <| hx) ?_
  obtain ⟨r7, I7, L7, D7, R7, e7, h⟩ := qc_bd_of h
  have c7 := (tX0_addJump hn hR e7)
  refine qd_cVv (ci := 0) (qc_at qkX2_joinTruths 3 rfl) ql_2_224 qfX0_addJump g6 rfl c7 rfl rfl (Nat.le_of_ble_eq_true rfl) (qc_rml (by decide) (by decide)) ⟨Nat.zero_le _, Nat.zero_le _⟩ ?_
  refine And.imp_right (fun hx => qc_istore_n (lv' := [(3, _), (0, _), (1, _), (2, _)]) (qc_at qkX2_joinTruths 4 rfl) rfl rfl <| qc_aload_n (qc_at qkX2_joinTruths 5 rfl) rfl <| hx) ?_
  obtain ⟨g8, h⟩ := qc_gd_of h
  replace g8 := qc_io_of g8
  refine And.imp_right (fun hx => qc_gR (qc_at qkX2_joinTruths 6 rfl) hn rfl rfl (qc_ki255 g8) <| qc_iload_n (qc_at qkX2_joinTruths 7 rfl) rfl <| hx) ?_
  obtain ⟨r9, I9, L9, D9, R9, e9, h⟩ := qc_bd_of h
  have c9 := (tX0_aim hn (c7.1.1 hR) e9)
  refine qd_cVn (ci := 0) (qc_at qkX2_joinTruths 8 rfl) ql_2_233 qfX0_aim g8 rfl c9 rfl rfl (Nat.le_of_ble_eq_true rfl) (qc_rml (by decide) (by decide)) ⟨Nat.zero_le _, Nat.zero_le _⟩ ?_
  refine And.imp_right (fun hx => qc_aload_n (qc_at qkX2_joinTruths 9 rfl) rfl <| hx) ?_
  obtain ⟨g10, h⟩ := qc_gd_of h
  replace g10 := qc_io_of g10
  refine And.imp_right (fun hx => qc_gR (qc_at qkX2_joinTruths 10 rfl) hn rfl rfl (qc_ki255 g10) <| hx) ?_
  obtain ⟨r11, I11, L11, D11, R11, e11, h⟩ := qc_bd_of h
  have c11 := (tX0_otherWay hn (c9.1.1 (c7.1.1 hR)) e11)
  refine qd_cVn (ci := 0) (qc_at qkX2_joinTruths 11 rfl) ql_2_237 qfX0_otherWay g10 rfl c11 rfl rfl (Nat.le_of_ble_eq_true rfl) (qc_rml (by decide) (by decide)) ⟨Nat.zero_le _, Nat.zero_le _⟩ ?_
  refine And.imp_right (fun hx => qc_aload_n (qc_at qkX2_joinTruths 12 rfl) rfl <| hx) ?_
  obtain ⟨g12, h⟩ := qc_gd_of h
  replace g12 := qc_io_of g12
  refine And.imp_right (fun hx => qc_gR (qc_at qkX2_joinTruths 13 rfl) hn rfl rfl (qc_ki255 g12) <| qc_iconst (qc_at qkX2_joinTruths 14 rfl) <| qc_aload_n (qc_at qkX2_joinTruths 15 rfl) rfl <| qc_gS (qc_at qkX2_joinTruths 16 rfl) rfl <| hx) ?_
  refine qc_andN (qc_acmp_ne (qc_at qkX2_joinTruths 17 rfl) (Or.inl g5) (Or.inl (by decide))) (fun u13 => ?_) (fun u13 => ?_)
  · replace h := qc_jn u13 h
    exact And.imp_right (fun hx => qc_iconst (qc_at qkX2_joinTruths 20 rfl) <| qc_sub [1, 0] rfl hx) (tX2_joinTruths_b43 hn (c11.1.1 (c9.1.1 (c7.1.1 hR))) h)
  · replace h := qc_jp u13 h
    exact And.imp_right (fun hx => qc_iconst (qc_at qkX2_joinTruths 18 rfl) <| qc_goto (qc_at qkX2_joinTruths 19 rfl) <| qc_sub [1, 0] rfl hx) (tX2_joinTruths_b43 hn (c11.1.1 (c9.1.1 (c7.1.1 hR))) h)
def fX2_joinValues (w : qcW) (I : qTI) (L : qTL) (D : qTD) (R : qTR) (x1 : Nat) (x2 : Int32) (x3 : Int32) (x4 : Int32) : qcO Int32 :=
  (qc_gd (qc_l62 x1) <| (if (qc_mfV 0 x1) = (5 : Int32) then (qc_gd (qc_io w (R 267 4) 0) <| qc_bd (fX0_convert w I L D R (R 267 4) x4 (1 : Int32)) fun r17 I17 L17 D17 R17 => qc_gd (qc_io w (R17 267 4) 0) <| qc_bd (fX0_add w I17 L17 D17 R17 (R17 267 4) ((qc_mfV 1 x1) + x3) (0 : Int32)) fun r19 I19 L19 D19 R19 => some (x3, I19, L19, D19, R19)) else (qc_bd (fJ9_max_7cf53 w I L D R x3 x4) fun r3 I3 L3 D3 R3 => qc_gd (qc_io w (R3 267 4) 0) <| qc_bd (fX0_convert w I3 L3 D3 R3 (R3 267 4) x4 r3) fun r5 I5 L5 D5 R5 => qc_gd (qc_io w (R5 267 4) 0) <| qc_bd (fX0_convertAt w I5 L5 D5 R5 (R5 267 4) x2 x3 r3) fun r7 I7 L7 D7 R7 => qc_bd (fJ9_max_7cf53 w I7 L7 D7 R7 r3 (1 : Int32)) fun r8 I8 L8 D8 R8 => if (qc_mfV 0 x1) = (3 : Int32) then (qc_gd (qc_io w (R8 267 4) 0) <| qc_bd (fX0_add w I8 L8 D8 R8 (R8 267 4) ((1400 : Int32) + r8) (0 : Int32)) fun r13 I13 L13 D13 R13 => qc_gd (qc_io w (R13 267 4) 0) <| qc_bd (fX0_add w I13 L13 D13 R13 (R13 267 4) (qc_mfV 1 x1) (0 : Int32)) fun r15 I15 L15 D15 R15 => some ((0 : Int32), I15, L15, D15, R15)) else (qc_gd (qc_io w (R8 267 4) 0) <| qc_bd (fX0_add w I8 L8 D8 R8 (R8 267 4) ((qc_mfV 1 x1) + r8) (0 : Int32)) fun r11 I11 L11 D11 R11 => some (r3, I11, L11, D11, R11)))))
set_option maxRecDepth 100000 in
set_option maxHeartbeats 4000000 in
theorem tX2_joinValues {w : qcW} {I : qTI} {L : qTL} {D : qTD} {R : qTR} {x1 : Nat} {x2 : Int32} {x3 : Int32} {x4 : Int32} {r : Int32} {I' : qTI} {L' : qTL} {D' : qTD} {R' : qTR} (hn : qcNF ≤ w.1) (hR : qc_FR R) (h : fX2_joinValues w I L D R x1 x2 x3 x4 = some (r, I', L', D', R')) : qc_fm qcSX (I, L, D, R) (I', L', D', R') ∧ qc_V (3) 0 0 qmX2_joinValues [.ref 267, .ref x1, .int x2, .int x3, .int x4] w (I, L, D, R) (qc_eq (some (.int r)) w (I', L', D', R')) := by
  unfold fX2_joinValues at h
  refine And.imp_right (fun hx => qc_V.of rfl rfl (Nat.le_of_ble_eq_true rfl) (lv := [(0, .ref 267), (1, .ref x1), (2, .int x2), (3, .int x3), (4, .int x4)]) rfl hx) ?_
  obtain ⟨g1, h⟩ := qc_gd_of h
  replace g1 := qc_l62_of g1
  refine And.imp_right (fun hx => qc_aload_n (qc_at qkX2_joinValues 0 rfl) rfl <| qc_gM (qc_at qkX2_joinValues 1 rfl) g1 <| qc_iconst (qc_at qkX2_joinValues 2 rfl) <| hx) ?_
  refine qc_andN (qc_icmp_ne (qc_at qkX2_joinValues 3 rfl)) (fun u2 => ?_) (fun u2 => ?_)
  · replace h := qc_jn u2 h
    refine And.imp_right (fun hx => qc_iload_n (qc_at qkX2_joinValues 19 rfl) rfl <| qc_iload (qc_at qkX2_joinValues 20 rfl) rfl <| hx) ?_
    obtain ⟨r3, I3, L3, D3, R3, e3, h⟩ := qc_bd_of h
    have c3 := (tJ9_max_7cf53 (sd := qcSX) hn hR e3)
    refine qd_cSv (qc_at qkX2_joinValues 21 rfl) ql_2_240 qfJ9_max_7cf53 c3 rfl rfl (Nat.le_of_ble_eq_true rfl) (qc_rml (by decide) (by decide)) ⟨Nat.zero_le _, Nat.zero_le _⟩ ?_
    refine And.imp_right (fun hx => qc_istore (lv' := [(5, _), (0, _), (1, _), (2, _), (3, _), (4, _)]) (qc_at qkX2_joinValues 22 rfl) rfl rfl <| qc_aload_n (qc_at qkX2_joinValues 23 rfl) rfl <| hx) ?_
    obtain ⟨g4, h⟩ := qc_gd_of h
    replace g4 := qc_io_of g4
    refine And.imp_right (fun hx => qc_gR (qc_at qkX2_joinValues 24 rfl) hn rfl rfl (qc_ki255 g4) <| qc_iload (qc_at qkX2_joinValues 25 rfl) rfl <| qc_iload (qc_at qkX2_joinValues 26 rfl) rfl <| hx) ?_
    obtain ⟨r5, I5, L5, D5, R5, e5, h⟩ := qc_bd_of h
    have c5 := (tX0_convert hn (c3.1.1 hR) e5)
    refine qd_cVn (ci := 0) (qc_at qkX2_joinValues 27 rfl) ql_2_177 qfX0_convert g4 rfl c5 rfl rfl (Nat.le_of_ble_eq_true rfl) (qc_rml (by decide) (by decide)) ⟨Nat.zero_le _, Nat.zero_le _⟩ ?_
    refine And.imp_right (fun hx => qc_aload_n (qc_at qkX2_joinValues 28 rfl) rfl <| hx) ?_
    obtain ⟨g6, h⟩ := qc_gd_of h
    replace g6 := qc_io_of g6
    refine And.imp_right (fun hx => qc_gR (qc_at qkX2_joinValues 29 rfl) hn rfl rfl (qc_ki255 g6) <| qc_iload_n (qc_at qkX2_joinValues 30 rfl) rfl <| qc_iload_n (qc_at qkX2_joinValues 31 rfl) rfl <| qc_iload (qc_at qkX2_joinValues 32 rfl) rfl <| hx) ?_
    obtain ⟨r7, I7, L7, D7, R7, e7, h⟩ := qc_bd_of h
    have c7 := (tX0_convertAt hn (c5.1.1 (c3.1.1 hR)) e7)
    refine qd_cVn (ci := 0) (qc_at qkX2_joinValues 33 rfl) ql_2_246 qfX0_convertAt g6 rfl c7 rfl rfl (Nat.le_of_ble_eq_true rfl) (qc_rml (by decide) (by decide)) ⟨Nat.zero_le _, Nat.zero_le _⟩ ?_
    refine And.imp_right (fun hx => qc_iload (qc_at qkX2_joinValues 34 rfl) rfl <| qc_iconst (qc_at qkX2_joinValues 35 rfl) <| hx) ?_
    obtain ⟨r8, I8, L8, D8, R8, e8, h⟩ := qc_bd_of h
    have c8 := (tJ9_max_7cf53 (sd := qcSX) hn (c7.1.1 (c5.1.1 (c3.1.1 hR))) e8)
    refine qd_cSv (qc_at qkX2_joinValues 36 rfl) ql_2_240 qfJ9_max_7cf53 c8 rfl rfl (Nat.le_of_ble_eq_true rfl) (qc_rml (by decide) (by decide)) ⟨Nat.zero_le _, Nat.zero_le _⟩ ?_
    refine And.imp_right (fun hx => qc_istore (lv' := [(6, _), (5, _), (0, _), (1, _), (2, _), (3, _), (4, _)]) (qc_at qkX2_joinValues 37 rfl) rfl rfl <| qc_aload_n (qc_at qkX2_joinValues 38 rfl) rfl <| qc_gM (qc_at qkX2_joinValues 39 rfl) g1 <| qc_iconst (qc_at qkX2_joinValues 40 rfl) <| hx) ?_
    refine qc_andN (qc_icmp_ne (qc_at qkX2_joinValues 41 rfl)) (fun u9 => ?_) (fun u9 => ?_)
    · replace h := qc_jn u9 h
      refine And.imp_right (fun hx => qc_aload_n (qc_at qkX2_joinValues 57 rfl) rfl <| hx) ?_
      obtain ⟨g10, h⟩ := qc_gd_of h
      replace g10 := qc_io_of g10
      refine And.imp_right (fun hx => qc_gR (qc_at qkX2_joinValues 58 rfl) hn rfl rfl (qc_ki255 g10) <| qc_aload_n (qc_at qkX2_joinValues 59 rfl) rfl <| qc_gM (qc_at qkX2_joinValues 60 rfl) g1 <| qc_iload (qc_at qkX2_joinValues 61 rfl) rfl <| qc_iadd (qc_at qkX2_joinValues 62 rfl) <| qc_iconst (qc_at qkX2_joinValues 63 rfl) <| hx) ?_
      obtain ⟨r11, I11, L11, D11, R11, e11, h⟩ := qc_bd_of h
      have c11 := (tX0_add hn (c8.1.1 (c7.1.1 (c5.1.1 (c3.1.1 hR)))) e11)
      refine qd_cVn (ci := 0) (qc_at qkX2_joinValues 64 rfl) ql_2_207 qfX0_add g10 rfl c11 rfl rfl (Nat.le_of_ble_eq_true rfl) (qc_rml (by decide) (by decide)) ⟨Nat.zero_le _, Nat.zero_le _⟩ ?_
      obtain ⟨rfl, rfl, rfl, rfl, rfl⟩ := qc_some5 h
      exact ⟨qc_fm.rf _, qc_iload (qc_at qkX2_joinValues 65 rfl) rfl <| qc_iret (qc_at qkX2_joinValues 66 rfl) rfl (Nat.le_refl _) (Nat.le_refl _) (qc_eq.rf _ _ _)⟩
    · replace h := qc_jp u9 h
      refine And.imp_right (fun hx => qc_aload_n (qc_at qkX2_joinValues 42 rfl) rfl <| hx) ?_
      obtain ⟨g12, h⟩ := qc_gd_of h
      replace g12 := qc_io_of g12
      refine And.imp_right (fun hx => qc_gR (qc_at qkX2_joinValues 43 rfl) hn rfl rfl (qc_ki255 g12) <| qc_sipush (qc_at qkX2_joinValues 44 rfl) <| qc_iload (qc_at qkX2_joinValues 45 rfl) rfl <| qc_iadd (qc_at qkX2_joinValues 46 rfl) <| qc_iconst (qc_at qkX2_joinValues 47 rfl) <| hx) ?_
      obtain ⟨r13, I13, L13, D13, R13, e13, h⟩ := qc_bd_of h
      have c13 := (tX0_add hn (c8.1.1 (c7.1.1 (c5.1.1 (c3.1.1 hR)))) e13)
      refine qd_cVn (ci := 0) (qc_at qkX2_joinValues 48 rfl) ql_2_207 qfX0_add g12 rfl c13 rfl rfl (Nat.le_of_ble_eq_true rfl) (qc_rml (by decide) (by decide)) ⟨Nat.zero_le _, Nat.zero_le _⟩ ?_
      refine And.imp_right (fun hx => qc_aload_n (qc_at qkX2_joinValues 49 rfl) rfl <| hx) ?_
      obtain ⟨g14, h⟩ := qc_gd_of h
      replace g14 := qc_io_of g14
      refine And.imp_right (fun hx => qc_gR (qc_at qkX2_joinValues 50 rfl) hn rfl rfl (qc_ki255 g14) <| qc_aload_n (qc_at qkX2_joinValues 51 rfl) rfl <| qc_gM (qc_at qkX2_joinValues 52 rfl) g1 <| qc_iconst (qc_at qkX2_joinValues 53 rfl) <| hx) ?_
      obtain ⟨r15, I15, L15, D15, R15, e15, h⟩ := qc_bd_of h
      have c15 := (tX0_add hn (c13.1.1 (c8.1.1 (c7.1.1 (c5.1.1 (c3.1.1 hR))))) e15)
      refine qd_cVn (ci := 0) (qc_at qkX2_joinValues 54 rfl) ql_2_207 qfX0_add g14 rfl c15 rfl rfl (Nat.le_of_ble_eq_true rfl) (qc_rml (by decide) (by decide)) ⟨Nat.zero_le _, Nat.zero_le _⟩ ?_
      obtain ⟨rfl, rfl, rfl, rfl, rfl⟩ := qc_some5 h
      exact ⟨qc_fm.rf _, qc_iconst (qc_at qkX2_joinValues 55 rfl) <| qc_iret (qc_at qkX2_joinValues 56 rfl) rfl (Nat.le_refl _) (Nat.le_refl _) (qc_eq.rf _ _ _)⟩
  · replace h := qc_jp u2 h
    refine And.imp_right (fun hx => qc_aload_n (qc_at qkX2_joinValues 4 rfl) rfl <| hx) ?_
    obtain ⟨g16, h⟩ := qc_gd_of h
    replace g16 := qc_io_of g16
    refine And.imp_right (fun hx => qc_gR (qc_at qkX2_joinValues 5 rfl) hn rfl rfl (qc_ki255 g16) <| qc_iload (qc_at qkX2_joinValues 6 rfl) rfl <| qc_iconst (qc_at qkX2_joinValues 7 rfl) <| hx) ?_
    obtain ⟨r17, I17, L17, D17, R17, e17, h⟩ := qc_bd_of h
    have c17 := (tX0_convert hn hR e17)
    refine qd_cVn (ci := 0) (qc_at qkX2_joinValues 8 rfl) ql_2_177 qfX0_convert g16 rfl c17 rfl rfl (Nat.le_of_ble_eq_true rfl) (qc_rml (by decide) (by decide)) ⟨Nat.zero_le _, Nat.zero_le _⟩ ?_
    refine And.imp_right (fun hx => qc_aload_n (qc_at qkX2_joinValues 9 rfl) rfl <| hx) ?_
    obtain ⟨g18, h⟩ := qc_gd_of h
    replace g18 := qc_io_of g18
    refine And.imp_right (fun hx => qc_gR (qc_at qkX2_joinValues 10 rfl) hn rfl rfl (qc_ki255 g18) <| qc_aload_n (qc_at qkX2_joinValues 11 rfl) rfl <| qc_gM (qc_at qkX2_joinValues 12 rfl) g1 <| qc_iload_n (qc_at qkX2_joinValues 13 rfl) rfl <| qc_iadd (qc_at qkX2_joinValues 14 rfl) <| qc_iconst (qc_at qkX2_joinValues 15 rfl) <| hx) ?_
    obtain ⟨r19, I19, L19, D19, R19, e19, h⟩ := qc_bd_of h
    have c19 := (tX0_add hn (c17.1.1 hR) e19)
    refine qd_cVn (ci := 0) (qc_at qkX2_joinValues 16 rfl) ql_2_207 qfX0_add g18 rfl c19 rfl rfl (Nat.le_of_ble_eq_true rfl) (qc_rml (by decide) (by decide)) ⟨Nat.zero_le _, Nat.zero_le _⟩ ?_
    obtain ⟨rfl, rfl, rfl, rfl, rfl⟩ := qc_some5 h
    exact ⟨qc_fm.rf _, qc_iload_n (qc_at qkX2_joinValues 17 rfl) rfl <| qc_iret (qc_at qkX2_joinValues 18 rfl) rfl (Nat.le_refl _) (Nat.le_refl _) (qc_eq.rf _ _ _)⟩
def fX2_laid (w : qcW) (I : qTI) (L : qTL) (D : qTD) (R : qTR) (x1 : Int32) (x2 : Int32) (x3 : Int32) : qcO Int32 :=
  (qc_gd (qc_io w (R 267 4) 0) <| qc_bd (fX0_add w I L D R (R 267 4) x1 x2) fun r2 I2 L2 D2 R2 => qc_bd (fX9_take w I2 L2 D2 R2) fun r3 I3 L3 D3 R3 => some (x3, I3, L3, D3, R3))
set_option maxRecDepth 100000 in
set_option maxHeartbeats 4000000 in
theorem tX2_laid {w : qcW} {I : qTI} {L : qTL} {D : qTD} {R : qTR} {x1 : Int32} {x2 : Int32} {x3 : Int32} {r : Int32} {I' : qTI} {L' : qTL} {D' : qTD} {R' : qTR} (hn : qcNF ≤ w.1) (hR : qc_FR R) (h : fX2_laid w I L D R x1 x2 x3 = some (r, I', L', D', R')) : qc_fm qcSX (I, L, D, R) (I', L', D', R') ∧ qc_V (7) 0 0 qmX2_laid [.ref 267, .int x1, .int x2, .int x3] w (I, L, D, R) (qc_eq (some (.int r)) w (I', L', D', R')) := by
  unfold fX2_laid at h
  refine And.imp_right (fun hx => qc_V.of rfl rfl (Nat.le_of_ble_eq_true rfl) (lv := [(0, .ref 267), (1, .int x1), (2, .int x2), (3, .int x3)]) rfl hx) ?_
  refine And.imp_right (fun hx => qc_aload_n (qc_at qkX2_laid 0 rfl) rfl <| hx) ?_
  obtain ⟨g1, h⟩ := qc_gd_of h
  replace g1 := qc_io_of g1
  refine And.imp_right (fun hx => qc_gR (qc_at qkX2_laid 1 rfl) hn rfl rfl (qc_ki255 g1) <| qc_iload_n (qc_at qkX2_laid 2 rfl) rfl <| qc_iload_n (qc_at qkX2_laid 3 rfl) rfl <| hx) ?_
  obtain ⟨r2, I2, L2, D2, R2, e2, h⟩ := qc_bd_of h
  have c2 := (tX0_add hn hR e2)
  refine qd_cVn (ci := 0) (qc_at qkX2_laid 4 rfl) ql_2_207 qfX0_add g1 rfl c2 rfl rfl (Nat.le_of_ble_eq_true rfl) (qc_rml (by decide) (by decide)) ⟨Nat.zero_le _, Nat.zero_le _⟩ ?_
  refine And.imp_right (fun hx => qc_aload_n (qc_at qkX2_laid 5 rfl) rfl <| qc_gR (qc_at qkX2_laid 6 rfl) hn rfl (qfr_267_0 (c2.1.1 hR)) rfl <| hx) ?_
  obtain ⟨r3, I3, L3, D3, R3, e3, h⟩ := qc_bd_of h
  have c3 := (tX9_take hn (c2.1.1 hR) e3)
  refine qd_cVn (ci := 7) (a0 := 268) (qc_at qkX2_laid 7 rfl) ql_2_195 qfX9_take (qc_kf hn rfl) rfl c3 rfl rfl (Nat.le_of_ble_eq_true rfl) (qc_rml (by decide) (by decide)) ⟨Nat.zero_le _, Nat.zero_le _⟩ ?_
  obtain ⟨rfl, rfl, rfl, rfl, rfl⟩ := qc_some5 h
  exact ⟨qc_fm.rf _, qc_iload_n (qc_at qkX2_laid 8 rfl) rfl <| qc_iret (qc_at qkX2_laid 9 rfl) rfl (Nat.le_refl _) (Nat.le_refl _) (qc_eq.rf _ _ _)⟩
def fX2_keepReal_b35 (w : qcW) (I : qTI) (L : qTL) (D : qTD) (R : qTR) : qcO Int32 :=
  (some (((I 267 5) - (1 : Int32)), I, L, D, R))
set_option maxRecDepth 100000 in
set_option maxHeartbeats 4000000 in
theorem tX2_keepReal_b35 {w : qcW} {I : qTI} {L : qTL} {D : qTD} {R : qTR} {r : Int32} {I' : qTI} {L' : qTL} {D' : qTD} {R' : qTR} (hn : qcNF ≤ w.1) (hR : qc_FR R) (h : fX2_keepReal_b35 w I L D R = some (r, I', L', D', R')) : qc_fm qcSX (I, L, D, R) (I', L', D', R') ∧ qc_X (qc_rm (0) 0 0) qmX2_keepReal (qc_QM 0 0 (qc_eq (some (.int r)) w (I', L', D', R'))) 0 0 w (35, [(0, .ref 267)], [], I, L, D, R) := by
  unfold fX2_keepReal_b35 at h
  obtain ⟨rfl, rfl, rfl, rfl, rfl⟩ := qc_some5 h
  exact ⟨qc_fm.rf _, qc_aload_n (qc_at qkX2_keepReal 18 rfl) rfl <| qc_gI (qc_at qkX2_keepReal 19 rfl) hn rfl <| qc_iconst (qc_at qkX2_keepReal 20 rfl) <| qc_isub (qc_at qkX2_keepReal 21 rfl) <| qc_iret (qc_at qkX2_keepReal 22 rfl) rfl (Nat.le_refl _) (Nat.le_refl _) (qc_eq.rf _ _ _)⟩
def fX2_keepReal (w : qcW) (I : qTI) (L : qTL) (D : qTD) (R : qTR) : qcO Int32 :=
  (if (100 : Int32) ≤ (I 267 5) then (fX2_keepReal_b35 w I L D R) else (qc_gd (qc_inb (I 267 5) 100) <| fX2_keepReal_b35 w (qc_u I 267 5 ((I 267 5) + (1 : Int32))) L (qc_u D 279 (Int32.toNatClampNeg (I 267 5)) (D 268 5)) R))
set_option maxRecDepth 100000 in
set_option maxHeartbeats 4000000 in
theorem tX2_keepReal {w : qcW} {I : qTI} {L : qTL} {D : qTD} {R : qTR} {r : Int32} {I' : qTI} {L' : qTL} {D' : qTD} {R' : qTR} (hn : qcNF ≤ w.1) (hR : qc_FR R) (h : fX2_keepReal w I L D R = some (r, I', L', D', R')) : qc_fm qcSX (I, L, D, R) (I', L', D', R') ∧ qc_V (0) 0 0 qmX2_keepReal [.ref 267] w (I, L, D, R) (qc_eq (some (.int r)) w (I', L', D', R')) := by
  unfold fX2_keepReal at h
  refine And.imp_right (fun hx => qc_V.of rfl rfl (Nat.le_of_ble_eq_true rfl) (lv := [(0, .ref 267)]) rfl hx) ?_
  refine And.imp_right (fun hx => qc_aload_n (qc_at qkX2_keepReal 0 rfl) rfl <| qc_gI (qc_at qkX2_keepReal 1 rfl) hn rfl <| qc_bipush (qc_at qkX2_keepReal 2 rfl) <| hx) ?_
  refine qc_andC (qc_icmp_ge (qc_at qkX2_keepReal 3 rfl)) (fun u1 => ?_) (fun u1 => ?_)
  · replace h := qc_jp u1 h
    exact And.imp_right (fun hx => qc_sub [0] rfl hx) (tX2_keepReal_b35 hn hR h)
  · replace h := qc_jn u1 h
    refine And.imp_right (fun hx => qc_aload_n (qc_at qkX2_keepReal 4 rfl) rfl <| qc_gR (qc_at qkX2_keepReal 5 rfl) hn rfl (qfr_267_3 hR) rfl <| qc_aload_n (qc_at qkX2_keepReal 6 rfl) rfl <| qc_gI (qc_at qkX2_keepReal 7 rfl) hn rfl <| qc_aload_n (qc_at qkX2_keepReal 8 rfl) rfl <| qc_gR (qc_at qkX2_keepReal 9 rfl) hn rfl (qfr_267_0 hR) rfl <| qc_gD (qc_at qkX2_keepReal 10 rfl) hn rfl <| hx) ?_
    obtain ⟨g2, h⟩ := qc_gd_of h
    refine qd_dast 100 (qc_at qkX2_keepReal 11 rfl) hn rfl (qc_inb_in g2) rfl ?_
    refine And.imp_right (fun hx => qc_aload_n (qc_at qkX2_keepReal 12 rfl) rfl <| qc_dup (qc_at qkX2_keepReal 13 rfl) rfl <| qc_gI (qc_at qkX2_keepReal 14 rfl) hn rfl <| qc_iconst (qc_at qkX2_keepReal 15 rfl) <| qc_iadd (qc_at qkX2_keepReal 16 rfl) <| hx) (qd_pI (qc_at qkX2_keepReal 17 rfl) hn rfl rfl ?_)
    exact And.imp_right (fun hx => qc_sub [0] rfl hx) (tX2_keepReal_b35 hn hR h)
def fX2_applied_b64 (w : qcW) (I : qTI) (L : qTL) (D : qTD) (R : qTR) (x1 : Nat) (x5 : Int32) : qcO Int32 :=
  (qc_gd (qc_l62 x1) <| (if (qc_mfV 1 x1) < (1700 : Int32) then (if (qc_mfV 1 x1) = 0 then (some (x5, I, L, D, R)) else (qc_gd (qc_io w (R 267 4) 0) <| qc_bd (fX0_add w I L D R (R 267 4) (qc_mfV 1 x1) (0 : Int32)) fun r5 I5 L5 D5 R5 => some (x5, I5, L5, D5, R5))) else (qc_gd (qc_io w (R 267 4) 0) <| qc_bd (fX0_add w I L D R (R 267 4) ((qc_mfV 1 x1) + x5) (0 : Int32)) fun r7 I7 L7 D7 R7 => some (x5, I7, L7, D7, R7))))
set_option maxRecDepth 100000 in
set_option maxHeartbeats 4000000 in
theorem tX2_applied_b64 {w : qcW} {I : qTI} {L : qTL} {D : qTD} {R : qTR} {x1 : Nat} {x5 : Int32} {r : Int32} {I' : qTI} {L' : qTL} {D' : qTD} {R' : qTR} (hn : qcNF ≤ w.1) (hR : qc_FR R) (h : fX2_applied_b64 w I L D R x1 x5 = some (r, I', L', D', R')) : qc_fm qcSX (I, L, D, R) (I', L', D', R') ∧ qc_X (qc_rm (3) 0 0) qmX2_applied (qc_QM 0 0 (qc_eq (some (.int r)) w (I', L', D', R'))) 0 0 w (64, [(0, .ref 267), (1, .ref x1), (5, .int x5)], [], I, L, D, R) := by
  unfold fX2_applied_b64 at h
  obtain ⟨g1, h⟩ := qc_gd_of h
  replace g1 := qc_l62_of g1
  refine And.imp_right (fun hx => qc_aload_n (qc_at qkX2_applied 31 rfl) rfl <| qc_gM (qc_at qkX2_applied 32 rfl) g1 <| qc_sipush (qc_at qkX2_applied 33 rfl) <| hx) ?_
  refine qc_andC (qc_icmp_lt (qc_at qkX2_applied 34 rfl)) (fun u2 => ?_) (fun u2 => ?_)
  · replace h := qc_jp u2 h
    refine And.imp_right (fun hx => qc_aload_n (qc_at qkX2_applied 44 rfl) rfl <| qc_gM (qc_at qkX2_applied 45 rfl) g1 <| hx) ?_
    refine qc_andC (qc_if_eq (qc_at qkX2_applied 46 rfl)) (fun u3 => ?_) (fun u3 => ?_)
    · replace h := qc_jp u3 h
      obtain ⟨rfl, rfl, rfl, rfl, rfl⟩ := qc_some5 h
      exact ⟨qc_fm.rf _, qc_iload (qc_at qkX2_applied 53 rfl) rfl <| qc_iret (qc_at qkX2_applied 54 rfl) rfl (Nat.le_refl _) (Nat.le_refl _) (qc_eq.rf _ _ _)⟩
    · replace h := qc_jn u3 h
      refine And.imp_right (fun hx => qc_aload_n (qc_at qkX2_applied 47 rfl) rfl <| hx) ?_
      obtain ⟨g4, h⟩ := qc_gd_of h
      replace g4 := qc_io_of g4
      refine And.imp_right (fun hx => qc_gR (qc_at qkX2_applied 48 rfl) hn rfl rfl (qc_ki255 g4) <| qc_aload_n (qc_at qkX2_applied 49 rfl) rfl <| qc_gM (qc_at qkX2_applied 50 rfl) g1 <| qc_iconst (qc_at qkX2_applied 51 rfl) <| hx) ?_
      obtain ⟨r5, I5, L5, D5, R5, e5, h⟩ := qc_bd_of h
      have c5 := (tX0_add hn hR e5)
      refine qd_cVn (ci := 0) (qc_at qkX2_applied 52 rfl) ql_2_207 qfX0_add g4 rfl c5 rfl rfl (Nat.le_of_ble_eq_true rfl) (qc_rml (by decide) (by decide)) ⟨Nat.zero_le _, Nat.zero_le _⟩ ?_
      obtain ⟨rfl, rfl, rfl, rfl, rfl⟩ := qc_some5 h
      exact ⟨qc_fm.rf _, qc_iload (qc_at qkX2_applied 53 rfl) rfl <| qc_iret (qc_at qkX2_applied 54 rfl) rfl (Nat.le_refl _) (Nat.le_refl _) (qc_eq.rf _ _ _)⟩
  · replace h := qc_jn u2 h
    refine And.imp_right (fun hx => qc_aload_n (qc_at qkX2_applied 35 rfl) rfl <| hx) ?_
    obtain ⟨g6, h⟩ := qc_gd_of h
    replace g6 := qc_io_of g6
    refine And.imp_right (fun hx => qc_gR (qc_at qkX2_applied 36 rfl) hn rfl rfl (qc_ki255 g6) <| qc_aload_n (qc_at qkX2_applied 37 rfl) rfl <| qc_gM (qc_at qkX2_applied 38 rfl) g1 <| qc_iload (qc_at qkX2_applied 39 rfl) rfl <| qc_iadd (qc_at qkX2_applied 40 rfl) <| qc_iconst (qc_at qkX2_applied 41 rfl) <| hx) ?_
    obtain ⟨r7, I7, L7, D7, R7, e7, h⟩ := qc_bd_of h
    have c7 := (tX0_add hn hR e7)
    refine qd_cVn (ci := 0) (qc_at qkX2_applied 42 rfl) ql_2_207 qfX0_add g6 rfl c7 rfl rfl (Nat.le_of_ble_eq_true rfl) (qc_rml (by decide) (by decide)) ⟨Nat.zero_le _, Nat.zero_le _⟩ ?_
    obtain ⟨rfl, rfl, rfl, rfl, rfl⟩ := qc_some5 h
    exact ⟨qc_fm.rf _, qc_goto (qc_at qkX2_applied 43 rfl) <| qc_iload (qc_at qkX2_applied 53 rfl) rfl <| qc_iret (qc_at qkX2_applied 54 rfl) rfl (Nat.le_refl _) (Nat.le_refl _) (qc_eq.rf _ _ _)⟩
def fX2_applied_b34 (w : qcW) (I : qTI) (L : qTL) (D : qTD) (R : qTR) (x1 : Nat) (x2 : Int32) (x3 : Int32) (x4 : Int32) (x5 : Int32) : qcO Int32 :=
  (qc_gd (qc_l62 x1) <| (qc_gd (qc_io w (R 267 4) 0) <| qc_bd (fX0_convert w I L D R (R 267 4) x4 x5) fun r10 I10 L10 D10 R10 => if (qc_mfV 2 x1) = (2 : Int32) then (qc_gd (qc_io w (R10 267 4) 0) <| qc_bd (fX0_convertAt w I10 L10 D10 R10 (R10 267 4) x3 x2 x5) fun r13 I13 L13 D13 R13 => fX2_applied_b64 w I13 L13 D13 R13 x1 x5) else (fX2_applied_b64 w I10 L10 D10 R10 x1 x5)))
set_option maxRecDepth 100000 in
set_option maxHeartbeats 4000000 in
theorem tX2_applied_b34 {w : qcW} {I : qTI} {L : qTL} {D : qTD} {R : qTR} {x1 : Nat} {x2 : Int32} {x3 : Int32} {x4 : Int32} {x5 : Int32} {r : Int32} {I' : qTI} {L' : qTL} {D' : qTD} {R' : qTR} (hn : qcNF ≤ w.1) (hR : qc_FR R) (h : fX2_applied_b34 w I L D R x1 x2 x3 x4 x5 = some (r, I', L', D', R')) : qc_fm qcSX (I, L, D, R) (I', L', D', R') ∧ qc_X (qc_rm (3) 0 0) qmX2_applied (qc_QM 0 0 (qc_eq (some (.int r)) w (I', L', D', R'))) 0 0 w (34, [(0, .ref 267), (1, .ref x1), (2, .int x2), (3, .int x3), (4, .int x4), (5, .int x5)], [], I, L, D, R) := by
  unfold fX2_applied_b34 at h
  obtain ⟨g8, h⟩ := qc_gd_of h
  replace g8 := qc_l62_of g8
  refine And.imp_right (fun hx => qc_aload_n (qc_at qkX2_applied 16 rfl) rfl <| hx) ?_
  obtain ⟨g9, h⟩ := qc_gd_of h
  replace g9 := qc_io_of g9
  refine And.imp_right (fun hx => qc_gR (qc_at qkX2_applied 17 rfl) hn rfl rfl (qc_ki255 g9) <| qc_iload (qc_at qkX2_applied 18 rfl) rfl <| qc_iload (qc_at qkX2_applied 19 rfl) rfl <| hx) ?_
  obtain ⟨r10, I10, L10, D10, R10, e10, h⟩ := qc_bd_of h
  have c10 := (tX0_convert hn hR e10)
  refine qd_cVn (ci := 0) (qc_at qkX2_applied 20 rfl) ql_2_177 qfX0_convert g9 rfl c10 rfl rfl (Nat.le_of_ble_eq_true rfl) (qc_rml (by decide) (by decide)) ⟨Nat.zero_le _, Nat.zero_le _⟩ ?_
  refine And.imp_right (fun hx => qc_aload_n (qc_at qkX2_applied 21 rfl) rfl <| qc_gM (qc_at qkX2_applied 22 rfl) g8 <| qc_iconst (qc_at qkX2_applied 23 rfl) <| hx) ?_
  refine qc_andN (qc_icmp_ne (qc_at qkX2_applied 24 rfl)) (fun u11 => ?_) (fun u11 => ?_)
  · replace h := qc_jn u11 h
    exact And.imp_right (fun hx => qc_sub [0, 1, 5] rfl hx) (tX2_applied_b64 hn (c10.1.1 hR) h)
  · replace h := qc_jp u11 h
    refine And.imp_right (fun hx => qc_aload_n (qc_at qkX2_applied 25 rfl) rfl <| hx) ?_
    obtain ⟨g12, h⟩ := qc_gd_of h
    replace g12 := qc_io_of g12
    refine And.imp_right (fun hx => qc_gR (qc_at qkX2_applied 26 rfl) hn rfl rfl (qc_ki255 g12) <| qc_iload_n (qc_at qkX2_applied 27 rfl) rfl <| qc_iload_n (qc_at qkX2_applied 28 rfl) rfl <| qc_iload (qc_at qkX2_applied 29 rfl) rfl <| hx) ?_
    obtain ⟨r13, I13, L13, D13, R13, e13, h⟩ := qc_bd_of h
    have c13 := (tX0_convertAt hn (c10.1.1 hR) e13)
    refine qd_cVn (ci := 0) (qc_at qkX2_applied 30 rfl) ql_2_246 qfX0_convertAt g12 rfl c13 rfl rfl (Nat.le_of_ble_eq_true rfl) (qc_rml (by decide) (by decide)) ⟨Nat.zero_le _, Nat.zero_le _⟩ ?_
    exact And.imp_right (fun hx => qc_sub [0, 1, 5] rfl hx) (tX2_applied_b64 hn (c13.1.1 (c10.1.1 hR)) h)
def fX2_applied_b28 (w : qcW) (I : qTI) (L : qTL) (D : qTD) (R : qTR) (x1 : Nat) (x2 : Int32) (x3 : Int32) (x4 : Int32) : qcO Int32 :=
  (qc_gd (qc_l62 x1) <| (fX2_applied_b34 w I L D R x1 x2 x3 x4 (qc_mfV 3 x1)))
set_option maxRecDepth 100000 in
set_option maxHeartbeats 4000000 in
theorem tX2_applied_b28 {w : qcW} {I : qTI} {L : qTL} {D : qTD} {R : qTR} {x1 : Nat} {x2 : Int32} {x3 : Int32} {x4 : Int32} {r : Int32} {I' : qTI} {L' : qTL} {D' : qTD} {R' : qTR} (hn : qcNF ≤ w.1) (hR : qc_FR R) (h : fX2_applied_b28 w I L D R x1 x2 x3 x4 = some (r, I', L', D', R')) : qc_fm qcSX (I, L, D, R) (I', L', D', R') ∧ qc_X (qc_rm (3) 0 0) qmX2_applied (qc_QM 0 0 (qc_eq (some (.int r)) w (I', L', D', R'))) 0 0 w (28, [(0, .ref 267), (1, .ref x1), (2, .int x2), (3, .int x3), (4, .int x4)], [], I, L, D, R) := by
  unfold fX2_applied_b28 at h
  obtain ⟨g14, h⟩ := qc_gd_of h
  replace g14 := qc_l62_of g14
  exact And.imp_right (fun hx => qc_aload_n (qc_at qkX2_applied 13 rfl) rfl <| qc_gM (qc_at qkX2_applied 14 rfl) g14 <| qc_istore (lv' := [(5, _), (0, _), (1, _), (2, _), (3, _), (4, _)]) (qc_at qkX2_applied 15 rfl) rfl rfl <| qc_sub [1, 2, 3, 4, 5, 0] rfl hx) (tX2_applied_b34 hn hR h)
def fX2_applied (w : qcW) (I : qTI) (L : qTL) (D : qTD) (R : qTR) (x1 : Nat) (x2 : Int32) (x3 : Int32) (x4 : Int32) : qcO Int32 :=
  (qc_gd (qc_l62 x1) <| (qc_bd (fJ9_max_7cf53 w I L D R x2 x4) fun r16 I16 L16 D16 R16 => if (qc_mfV 3 x1) = 0 then (fX2_applied_b34 w I16 L16 D16 R16 x1 x2 x3 x4 r16) else (if x1 = 26 then (if r16 = (3 : Int32) then (fX2_applied_b34 w I16 L16 D16 R16 x1 x2 x3 x4 r16) else (fX2_applied_b28 w I16 L16 D16 R16 x1 x2 x3 x4)) else (fX2_applied_b28 w I16 L16 D16 R16 x1 x2 x3 x4))))
set_option maxRecDepth 100000 in
set_option maxHeartbeats 4000000 in
theorem tX2_applied {w : qcW} {I : qTI} {L : qTL} {D : qTD} {R : qTR} {x1 : Nat} {x2 : Int32} {x3 : Int32} {x4 : Int32} {r : Int32} {I' : qTI} {L' : qTL} {D' : qTD} {R' : qTR} (hn : qcNF ≤ w.1) (hR : qc_FR R) (h : fX2_applied w I L D R x1 x2 x3 x4 = some (r, I', L', D', R')) : qc_fm qcSX (I, L, D, R) (I', L', D', R') ∧ qc_V (3) 0 0 qmX2_applied [.ref 267, .ref x1, .int x2, .int x3, .int x4] w (I, L, D, R) (qc_eq (some (.int r)) w (I', L', D', R')) := by
  unfold fX2_applied at h
  refine And.imp_right (fun hx => qc_V.of rfl rfl (Nat.le_of_ble_eq_true rfl) (lv := [(0, .ref 267), (1, .ref x1), (2, .int x2), (3, .int x3), (4, .int x4)]) rfl hx) ?_
  obtain ⟨g15, h⟩ := qc_gd_of h
  replace g15 := qc_l62_of g15
  refine And.imp_right (fun hx => qc_iload_n (qc_at qkX2_applied 0 rfl) rfl <| qc_iload (qc_at qkX2_applied 1 rfl) rfl <| hx) ?_
  obtain ⟨r16, I16, L16, D16, R16, e16, h⟩ := qc_bd_of h
  have c16 := (tJ9_max_7cf53 (sd := qcSX) hn hR e16)
  refine qd_cSv (qc_at qkX2_applied 2 rfl) ql_2_240 qfJ9_max_7cf53 c16 rfl rfl (Nat.le_of_ble_eq_true rfl) (qc_rml (by decide) (by decide)) ⟨Nat.zero_le _, Nat.zero_le _⟩ ?_
  refine And.imp_right (fun hx => qc_istore (lv' := [(5, _), (0, _), (1, _), (2, _), (3, _), (4, _)]) (qc_at qkX2_applied 3 rfl) rfl rfl <| qc_aload_n (qc_at qkX2_applied 4 rfl) rfl <| qc_gM (qc_at qkX2_applied 5 rfl) g15 <| hx) ?_
  refine qc_andC (qc_if_eq (qc_at qkX2_applied 6 rfl)) (fun u17 => ?_) (fun u17 => ?_)
  · replace h := qc_jp u17 h
    exact And.imp_right (fun hx => qc_sub [1, 2, 3, 4, 5, 0] rfl hx) (tX2_applied_b34 hn (c16.1.1 hR) h)
  · replace h := qc_jn u17 h
    refine And.imp_right (fun hx => qc_aload_n (qc_at qkX2_applied 7 rfl) rfl <| qc_gS (qc_at qkX2_applied 8 rfl) rfl <| hx) ?_
    refine qc_andN (qc_acmp_ne (qc_at qkX2_applied 9 rfl) (Or.inl g15) (Or.inl (by decide))) (fun u18 => ?_) (fun u18 => ?_)
    · replace h := qc_jn u18 h
      exact And.imp_right (fun hx => qc_sub [1, 2, 3, 4, 5] rfl hx) (tX2_applied_b28 hn (c16.1.1 hR) h)
    · replace h := qc_jp u18 h
      refine And.imp_right (fun hx => qc_iload (qc_at qkX2_applied 10 rfl) rfl <| qc_iconst (qc_at qkX2_applied 11 rfl) <| hx) ?_
      refine qc_andC (qc_icmp_eq (qc_at qkX2_applied 12 rfl)) (fun u19 => ?_) (fun u19 => ?_)
      · replace h := qc_jp u19 h
        exact And.imp_right (fun hx => qc_sub [1, 2, 3, 4, 5, 0] rfl hx) (tX2_applied_b34 hn (c16.1.1 hR) h)
      · replace h := qc_jn u19 h
        exact And.imp_right (fun hx => qc_sub [1, 2, 3, 4, 5] rfl hx) (tX2_applied_b28 hn (c16.1.1 hR) h)
def fX2_openOne_b24 (w : qcW) (I : qTI) (L : qTL) (D : qTD) (R : qTR) : qcO Unit :=
  (some ((), (qc_u I 267 6 ((I 267 6) + (1 : Int32))), L, D, R))
set_option maxRecDepth 100000 in
set_option maxHeartbeats 4000000 in
theorem tX2_openOne_b24 {w : qcW} {I : qTI} {L : qTL} {D : qTD} {R : qTR} {r : Unit} {I' : qTI} {L' : qTL} {D' : qTD} {R' : qTR} (hn : qcNF ≤ w.1) (hR : qc_FR R) (h : fX2_openOne_b24 w I L D R = some (r, I', L', D', R')) : qc_fm qcSX (I, L, D, R) (I', L', D', R') ∧ qc_X (qc_rm (1) 0 0) qmX2_openOne (qc_QM 0 0 (qc_eq none w (I', L', D', R'))) 0 0 w (24, [(0, .ref 267)], [], I, L, D, R) := by
  unfold fX2_openOne_b24 at h
  refine And.imp_right (fun hx => qc_aload_n (qc_at qkX2_openOne 11 rfl) rfl <| qc_dup (qc_at qkX2_openOne 12 rfl) rfl <| qc_gI (qc_at qkX2_openOne 13 rfl) hn rfl <| qc_iconst (qc_at qkX2_openOne 14 rfl) <| qc_iadd (qc_at qkX2_openOne 15 rfl) <| hx) (qd_pI (qc_at qkX2_openOne 16 rfl) hn rfl rfl ?_)
  obtain ⟨rfl, rfl, rfl, rfl, rfl⟩ := qc_some5 h
  exact ⟨qc_fm.rf _, qc_vret (qc_at qkX2_openOne 17 rfl) rfl (Nat.le_refl _) (Nat.le_refl _) (qc_eq.rf _ _ _)⟩
def fX2_openOne (w : qcW) (I : qTI) (L : qTL) (D : qTD) (R : qTR) : qcO Unit :=
  (if (I 267 6) < (12 : Int32) then (fX2_openOne_b24 w I L D R) else (qc_bd (fX9_refuse w I L D R (3 : Int32) (I 268 2)) fun r2 I2 L2 D2 R2 => fX2_openOne_b24 w I2 L2 D2 R2))
set_option maxRecDepth 100000 in
set_option maxHeartbeats 4000000 in
theorem tX2_openOne {w : qcW} {I : qTI} {L : qTL} {D : qTD} {R : qTR} {r : Unit} {I' : qTI} {L' : qTL} {D' : qTD} {R' : qTR} (hn : qcNF ≤ w.1) (hR : qc_FR R) (h : fX2_openOne w I L D R = some (r, I', L', D', R')) : qc_fm qcSX (I, L, D, R) (I', L', D', R') ∧ qc_V (1) 0 0 qmX2_openOne [.ref 267] w (I, L, D, R) (qc_eq none w (I', L', D', R')) := by
  unfold fX2_openOne at h
  refine And.imp_right (fun hx => qc_V.of rfl rfl (Nat.le_of_ble_eq_true rfl) (lv := [(0, .ref 267)]) rfl hx) ?_
  refine And.imp_right (fun hx => qc_aload_n (qc_at qkX2_openOne 0 rfl) rfl <| qc_gI (qc_at qkX2_openOne 1 rfl) hn rfl <| qc_bipush (qc_at qkX2_openOne 2 rfl) <| hx) ?_
  refine qc_andC (qc_icmp_lt (qc_at qkX2_openOne 3 rfl)) (fun u1 => ?_) (fun u1 => ?_)
  · replace h := qc_jp u1 h
    exact And.imp_right (fun hx => qc_sub [0] rfl hx) (tX2_openOne_b24 hn hR h)
  · replace h := qc_jn u1 h
    refine And.imp_right (fun hx => qc_aload_n (qc_at qkX2_openOne 4 rfl) rfl <| qc_gR (qc_at qkX2_openOne 5 rfl) hn rfl (qfr_267_0 hR) rfl <| qc_iconst (qc_at qkX2_openOne 6 rfl) <| qc_aload_n (qc_at qkX2_openOne 7 rfl) rfl <| qc_gR (qc_at qkX2_openOne 8 rfl) hn rfl (qfr_267_0 hR) rfl <| qc_gI (qc_at qkX2_openOne 9 rfl) hn rfl <| hx) ?_
    obtain ⟨r2, I2, L2, D2, R2, e2, h⟩ := qc_bd_of h
    have c2 := (tX9_refuse hn hR e2)
    refine qd_cVn (ci := 7) (a0 := 268) (qc_at qkX2_openOne 10 rfl) ql_2_145 qfX9_refuse (qc_kf hn rfl) rfl c2 rfl rfl (Nat.le_of_ble_eq_true rfl) (qc_rml (by decide) (by decide)) ⟨Nat.zero_le _, Nat.zero_le _⟩ ?_
    exact And.imp_right (fun hx => qc_sub [0] rfl hx) (tX2_openOne_b24 hn (c2.1.1 hR) h)
