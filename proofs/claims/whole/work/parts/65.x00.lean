def fX6_empty (w : qcW) (I : qTI) (L : qTL) (D : qTD) (R : qTR) : qcO Unit :=
  (some ((), (qc_u I 287 2 (0 : Int32)), L, D, R))
set_option maxRecDepth 100000 in
set_option maxHeartbeats 4000000 in
theorem tX6_empty {w : qcW} {I : qTI} {L : qTL} {D : qTD} {R : qTR} {r : Unit} {I' : qTI} {L' : qTL} {D' : qTD} {R' : qTR} (hn : qcNF ≤ w.1) (hR : qc_FR R) (h : fX6_empty w I L D R = some (r, I', L', D', R')) : qc_fm qcSX (I, L, D, R) (I', L', D', R') ∧ qc_V (0) 0 0 qmX6_empty [.ref 287] w (I, L, D, R) (qc_eq none w (I', L', D', R')) := by
  unfold fX6_empty at h
  refine And.imp_right (fun hx => qc_V.of rfl rfl (Nat.le_of_ble_eq_true rfl) (lv := [(0, .ref 287)]) rfl hx) ?_
  refine And.imp_right (fun hx => qc_aload_n (qc_at qkX6_empty 0 rfl) rfl <| qc_iconst (qc_at qkX6_empty 1 rfl) <| hx) (qd_pI (qc_at qkX6_empty 2 rfl) hn rfl rfl ?_)
  obtain ⟨rfl, rfl, rfl, rfl, rfl⟩ := qc_some5 h
  exact ⟨qc_fm.rf _, qc_vret (qc_at qkX6_empty 3 rfl) rfl (Nat.le_refl _) (Nat.le_refl _) (qc_eq.rf _ _ _)⟩
def fX6_lay (w : qcW) (I : qTI) (L : qTL) (D : qTD) (R : qTR) (x1 : Int64) : qcO Unit :=
  (if (24 : Int32) ≤ (I 287 2) then (some ((), I, L, D, R)) else (qc_gd (qc_inb (I 287 2) 24) <| some ((), (qc_u I 287 2 ((I 287 2) + (1 : Int32))), (qc_u L 288 (Int32.toNatClampNeg (I 287 2)) x1), D, R)))
set_option maxRecDepth 100000 in
set_option maxHeartbeats 4000000 in
theorem tX6_lay {w : qcW} {I : qTI} {L : qTL} {D : qTD} {R : qTR} {x1 : Int64} {r : Unit} {I' : qTI} {L' : qTL} {D' : qTD} {R' : qTR} (hn : qcNF ≤ w.1) (hR : qc_FR R) (h : fX6_lay w I L D R x1 = some (r, I', L', D', R')) : qc_fm qcSX (I, L, D, R) (I', L', D', R') ∧ qc_V (0) 0 0 qmX6_lay [.ref 287, .long x1] w (I, L, D, R) (qc_eq none w (I', L', D', R')) := by
  unfold fX6_lay at h
  refine And.imp_right (fun hx => qc_V.of rfl rfl (Nat.le_of_ble_eq_true rfl) (lv := [(0, .ref 287), (1, .long x1)]) rfl hx) ?_
  refine And.imp_right (fun hx => qc_aload_n (qc_at qkX6_lay 0 rfl) rfl <| qc_gI (qc_at qkX6_lay 1 rfl) hn rfl <| qc_bipush (qc_at qkX6_lay 2 rfl) <| hx) ?_
  refine qc_andC (qc_icmp_ge (qc_at qkX6_lay 3 rfl)) (fun u1 => ?_) (fun u1 => ?_)
  · replace h := qc_jp u1 h
    obtain ⟨rfl, rfl, rfl, rfl, rfl⟩ := qc_some5 h
    exact ⟨qc_fm.rf _, qc_vret (qc_at qkX6_lay 16 rfl) rfl (Nat.le_refl _) (Nat.le_refl _) (qc_eq.rf _ _ _)⟩
  · replace h := qc_jn u1 h
    refine And.imp_right (fun hx => qc_aload_n (qc_at qkX6_lay 4 rfl) rfl <| qc_gR (qc_at qkX6_lay 5 rfl) hn rfl (qfr_287_0 hR) rfl <| qc_aload_n (qc_at qkX6_lay 6 rfl) rfl <| qc_gI (qc_at qkX6_lay 7 rfl) hn rfl <| qc_lload_n (qc_at qkX6_lay 8 rfl) rfl <| hx) ?_
    obtain ⟨g2, h⟩ := qc_gd_of h
    refine qd_last 24 (qc_at qkX6_lay 9 rfl) hn rfl (qc_inb_in g2) rfl ?_
    refine And.imp_right (fun hx => qc_aload_n (qc_at qkX6_lay 10 rfl) rfl <| qc_dup (qc_at qkX6_lay 11 rfl) rfl <| qc_gI (qc_at qkX6_lay 12 rfl) hn rfl <| qc_iconst (qc_at qkX6_lay 13 rfl) <| qc_iadd (qc_at qkX6_lay 14 rfl) <| hx) (qd_pI (qc_at qkX6_lay 15 rfl) hn rfl rfl ?_)
    obtain ⟨rfl, rfl, rfl, rfl, rfl⟩ := qc_some5 h
    exact ⟨qc_fm.rf _, qc_vret (qc_at qkX6_lay 16 rfl) rfl (Nat.le_refl _) (Nat.le_refl _) (qc_eq.rf _ _ _)⟩
def fX6_layReal (w : qcW) (I : qTI) (L : qTL) (D : qTD) (R : qTR) (x1 : UInt64) : qcO Unit :=
  (if (24 : Int32) ≤ (I 287 2) then (some ((), I, L, D, R)) else (qc_gd (qc_inb (I 287 2) 24) <| some ((), (qc_u I 287 2 ((I 287 2) + (1 : Int32))), L, (qc_u D 289 (Int32.toNatClampNeg (I 287 2)) x1), R)))
set_option maxRecDepth 100000 in
set_option maxHeartbeats 4000000 in
theorem tX6_layReal {w : qcW} {I : qTI} {L : qTL} {D : qTD} {R : qTR} {x1 : UInt64} {r : Unit} {I' : qTI} {L' : qTL} {D' : qTD} {R' : qTR} (hn : qcNF ≤ w.1) (hR : qc_FR R) (h : fX6_layReal w I L D R x1 = some (r, I', L', D', R')) : qc_fm qcSX (I, L, D, R) (I', L', D', R') ∧ qc_V (0) 0 0 qmX6_layReal [.ref 287, .double x1] w (I, L, D, R) (qc_eq none w (I', L', D', R')) := by
  unfold fX6_layReal at h
  refine And.imp_right (fun hx => qc_V.of rfl rfl (Nat.le_of_ble_eq_true rfl) (lv := [(0, .ref 287), (1, .double x1)]) rfl hx) ?_
  refine And.imp_right (fun hx => qc_aload_n (qc_at qkX6_layReal 0 rfl) rfl <| qc_gI (qc_at qkX6_layReal 1 rfl) hn rfl <| qc_bipush (qc_at qkX6_layReal 2 rfl) <| hx) ?_
  refine qc_andC (qc_icmp_ge (qc_at qkX6_layReal 3 rfl)) (fun u1 => ?_) (fun u1 => ?_)
  · replace h := qc_jp u1 h
    obtain ⟨rfl, rfl, rfl, rfl, rfl⟩ := qc_some5 h
    exact ⟨qc_fm.rf _, qc_vret (qc_at qkX6_layReal 16 rfl) rfl (Nat.le_refl _) (Nat.le_refl _) (qc_eq.rf _ _ _)⟩
  · replace h := qc_jn u1 h
    refine And.imp_right (fun hx => qc_aload_n (qc_at qkX6_layReal 4 rfl) rfl <| qc_gR (qc_at qkX6_layReal 5 rfl) hn rfl (qfr_287_1 hR) rfl <| qc_aload_n (qc_at qkX6_layReal 6 rfl) rfl <| qc_gI (qc_at qkX6_layReal 7 rfl) hn rfl <| qc_dload_n (qc_at qkX6_layReal 8 rfl) rfl <| hx) ?_
    obtain ⟨g2, h⟩ := qc_gd_of h
    refine qd_dast 24 (qc_at qkX6_layReal 9 rfl) hn rfl (qc_inb_in g2) rfl ?_
    refine And.imp_right (fun hx => qc_aload_n (qc_at qkX6_layReal 10 rfl) rfl <| qc_dup (qc_at qkX6_layReal 11 rfl) rfl <| qc_gI (qc_at qkX6_layReal 12 rfl) hn rfl <| qc_iconst (qc_at qkX6_layReal 13 rfl) <| qc_iadd (qc_at qkX6_layReal 14 rfl) <| hx) (qd_pI (qc_at qkX6_layReal 15 rfl) hn rfl rfl ?_)
    obtain ⟨rfl, rfl, rfl, rfl, rfl⟩ := qc_some5 h
    exact ⟨qc_fm.rf _, qc_vret (qc_at qkX6_layReal 16 rfl) rfl (Nat.le_refl _) (Nat.le_refl _) (qc_eq.rf _ _ _)⟩
def fX6_take (w : qcW) (I : qTI) (L : qTL) (D : qTD) (R : qTR) : qcO Int64 :=
  (if (I 287 2) ≤ 0 then (some ((0 : Int64), I, L, D, R)) else (qc_gd (qc_inb ((qc_u I 287 2 ((I 287 2) - (1 : Int32))) 287 2) 24) <| some ((L 288 (Int32.toNatClampNeg ((qc_u I 287 2 ((I 287 2) - (1 : Int32))) 287 2))), (qc_u I 287 2 ((I 287 2) - (1 : Int32))), L, D, R)))
set_option maxRecDepth 100000 in
set_option maxHeartbeats 4000000 in
theorem tX6_take {w : qcW} {I : qTI} {L : qTL} {D : qTD} {R : qTR} {r : Int64} {I' : qTI} {L' : qTL} {D' : qTD} {R' : qTR} (hn : qcNF ≤ w.1) (hR : qc_FR R) (h : fX6_take w I L D R = some (r, I', L', D', R')) : qc_fm qcSX (I, L, D, R) (I', L', D', R') ∧ qc_V (0) 0 0 qmX6_take [.ref 287] w (I, L, D, R) (qc_eq (some (.long r)) w (I', L', D', R')) := by
  unfold fX6_take at h
  refine And.imp_right (fun hx => qc_V.of rfl rfl (Nat.le_of_ble_eq_true rfl) (lv := [(0, .ref 287)]) rfl hx) ?_
  refine And.imp_right (fun hx => qc_aload_n (qc_at qkX6_take 0 rfl) rfl <| qc_gI (qc_at qkX6_take 1 rfl) hn rfl <| hx) ?_
  refine qc_andC (qc_if_le (qc_at qkX6_take 2 rfl)) (fun u1 => ?_) (fun u1 => ?_)
  · replace h := qc_jp u1 h
    obtain ⟨rfl, rfl, rfl, rfl, rfl⟩ := qc_some5 h
    exact ⟨qc_fm.rf _, qc_lconst (qc_at qkX6_take 15 rfl) <| qc_lret (qc_at qkX6_take 16 rfl) rfl (Nat.le_refl _) (Nat.le_refl _) (qc_eq.rf _ _ _)⟩
  · replace h := qc_jn u1 h
    refine And.imp_right (fun hx => qc_aload_n (qc_at qkX6_take 3 rfl) rfl <| qc_dup (qc_at qkX6_take 4 rfl) rfl <| qc_gI (qc_at qkX6_take 5 rfl) hn rfl <| qc_iconst (qc_at qkX6_take 6 rfl) <| qc_isub (qc_at qkX6_take 7 rfl) <| hx) (qd_pI (qc_at qkX6_take 8 rfl) hn rfl rfl ?_)
    refine And.imp_right (fun hx => qc_aload_n (qc_at qkX6_take 9 rfl) rfl <| qc_gR (qc_at qkX6_take 10 rfl) hn rfl (qfr_287_0 hR) rfl <| qc_aload_n (qc_at qkX6_take 11 rfl) rfl <| qc_gI (qc_at qkX6_take 12 rfl) hn rfl <| hx) ?_
    obtain ⟨g2, h⟩ := qc_gd_of h
    obtain ⟨rfl, rfl, rfl, rfl, rfl⟩ := qc_some5 h
    exact ⟨qc_fm.rf _, qc_lald 24 (qc_at qkX6_take 13 rfl) hn rfl (qc_inb_in g2) <| qc_lret (qc_at qkX6_take 14 rfl) rfl (Nat.le_refl _) (Nat.le_refl _) (qc_eq.rf _ _ _)⟩
def fX6_takeReal (w : qcW) (I : qTI) (L : qTL) (D : qTD) (R : qTR) : qcO UInt64 :=
  (if (I 287 2) ≤ 0 then (some ((0 : UInt64), I, L, D, R)) else (qc_gd (qc_inb ((qc_u I 287 2 ((I 287 2) - (1 : Int32))) 287 2) 24) <| some ((D 289 (Int32.toNatClampNeg ((qc_u I 287 2 ((I 287 2) - (1 : Int32))) 287 2))), (qc_u I 287 2 ((I 287 2) - (1 : Int32))), L, D, R)))
set_option maxRecDepth 100000 in
set_option maxHeartbeats 4000000 in
theorem tX6_takeReal {w : qcW} {I : qTI} {L : qTL} {D : qTD} {R : qTR} {r : UInt64} {I' : qTI} {L' : qTL} {D' : qTD} {R' : qTR} (hn : qcNF ≤ w.1) (hR : qc_FR R) (h : fX6_takeReal w I L D R = some (r, I', L', D', R')) : qc_fm qcSX (I, L, D, R) (I', L', D', R') ∧ qc_V (0) 0 0 qmX6_takeReal [.ref 287] w (I, L, D, R) (qc_eq (some (.double r)) w (I', L', D', R')) := by
  unfold fX6_takeReal at h
  refine And.imp_right (fun hx => qc_V.of rfl rfl (Nat.le_of_ble_eq_true rfl) (lv := [(0, .ref 287)]) rfl hx) ?_
  refine And.imp_right (fun hx => qc_aload_n (qc_at qkX6_takeReal 0 rfl) rfl <| qc_gI (qc_at qkX6_takeReal 1 rfl) hn rfl <| hx) ?_
  refine qc_andC (qc_if_le (qc_at qkX6_takeReal 2 rfl)) (fun u1 => ?_) (fun u1 => ?_)
  · replace h := qc_jp u1 h
    obtain ⟨rfl, rfl, rfl, rfl, rfl⟩ := qc_some5 h
    exact ⟨qc_fm.rf _, qc_dconst (qc_at qkX6_takeReal 15 rfl) <| qc_dret (qc_at qkX6_takeReal 16 rfl) rfl (Nat.le_refl _) (Nat.le_refl _) (qc_eq.rf _ _ _)⟩
  · replace h := qc_jn u1 h
    refine And.imp_right (fun hx => qc_aload_n (qc_at qkX6_takeReal 3 rfl) rfl <| qc_dup (qc_at qkX6_takeReal 4 rfl) rfl <| qc_gI (qc_at qkX6_takeReal 5 rfl) hn rfl <| qc_iconst (qc_at qkX6_takeReal 6 rfl) <| qc_isub (qc_at qkX6_takeReal 7 rfl) <| hx) (qd_pI (qc_at qkX6_takeReal 8 rfl) hn rfl rfl ?_)
    refine And.imp_right (fun hx => qc_aload_n (qc_at qkX6_takeReal 9 rfl) rfl <| qc_gR (qc_at qkX6_takeReal 10 rfl) hn rfl (qfr_287_1 hR) rfl <| qc_aload_n (qc_at qkX6_takeReal 11 rfl) rfl <| qc_gI (qc_at qkX6_takeReal 12 rfl) hn rfl <| hx) ?_
    obtain ⟨g2, h⟩ := qc_gd_of h
    obtain ⟨rfl, rfl, rfl, rfl, rfl⟩ := qc_some5 h
    exact ⟨qc_fm.rf _, qc_dald 24 (qc_at qkX6_takeReal 13 rfl) hn rfl (qc_inb_in g2) <| qc_dret (qc_at qkX6_takeReal 14 rfl) rfl (Nat.le_refl _) (Nat.le_refl _) (qc_eq.rf _ _ _)⟩
def fX8_isNoNumber (w : qcW) (I : qTI) (L : qTL) (D : qTD) (R : qTR) (x0 : Int64) (x2 : Int32) (x3 : Int32) : qcO Bool :=
  (if (lg_cmp ((UInt64.toInt64 (Int64.toUInt64 x0 >>> (Int64.toUInt64 (Int32.toInt64 x2) &&& Int64.toUInt64 63))) &&& (Int32.toInt64 (((2 : Int32) * x3) + (1 : Int32)))) (Int32.toInt64 (((2 : Int32) * x3) + (1 : Int32)))) = 0 then (if (lg_cmp (x0 &&& (((1 : Int64) <<< (Int32.toInt64 x2 &&& 63)) - (1 : Int64))) (0 : Int64)) = 0 then (some (false, I, L, D, R)) else (some (true, I, L, D, R))) else (some (false, I, L, D, R)))
set_option maxRecDepth 100000 in
set_option maxHeartbeats 4000000 in
theorem tX8_isNoNumber {w : qcW} {I : qTI} {L : qTL} {D : qTD} {R : qTR} {x0 : Int64} {x2 : Int32} {x3 : Int32} {r : Bool} {I' : qTI} {L' : qTL} {D' : qTD} {R' : qTR} (hn : qcNF ≤ w.1) (hR : qc_FR R) (h : fX8_isNoNumber w I L D R x0 x2 x3 = some (r, I', L', D', R')) : qc_fm qcSX (I, L, D, R) (I', L', D', R') ∧ qc_V (0) 0 0 qmX8_isNoNumber [.long x0, .int x2, .int x3] w (I, L, D, R) (qc_eq (some (.int (qc_b r))) w (I', L', D', R')) := by
  unfold fX8_isNoNumber at h
  refine And.imp_right (fun hx => qc_V.of rfl rfl (Nat.le_of_ble_eq_true rfl) (lv := [(0, .long x0), (2, .int x2), (3, .int x3)]) rfl hx) ?_
  refine And.imp_right (fun hx => qc_iconst (qc_at qkX8_isNoNumber 0 rfl) <| qc_iload_n (qc_at qkX8_isNoNumber 1 rfl) rfl <| qc_imul (qc_at qkX8_isNoNumber 2 rfl) <| qc_iconst (qc_at qkX8_isNoNumber 3 rfl) <| qc_iadd (qc_at qkX8_isNoNumber 4 rfl) <| qc_istore (lv' := [(4, _), (0, _), (2, _), (3, _)]) (qc_at qkX8_isNoNumber 5 rfl) rfl rfl <| qc_lload_n (qc_at qkX8_isNoNumber 6 rfl) rfl <| qc_iload_n (qc_at qkX8_isNoNumber 7 rfl) rfl <| qc_lushr (qc_at qkX8_isNoNumber 8 rfl) <| qc_iload (qc_at qkX8_isNoNumber 9 rfl) rfl <| qc_i2l (qc_at qkX8_isNoNumber 10 rfl) <| qc_land (qc_at qkX8_isNoNumber 11 rfl) <| qc_iload (qc_at qkX8_isNoNumber 12 rfl) rfl <| qc_i2l (qc_at qkX8_isNoNumber 13 rfl) <| qc_lcmp (qc_at qkX8_isNoNumber 14 rfl) <| hx) ?_
  refine qc_andN (qc_if_ne (qc_at qkX8_isNoNumber 15 rfl)) (fun u1 => ?_) (fun u1 => ?_)
  · replace h := qc_jn u1 h
    obtain ⟨rfl, rfl, rfl, rfl, rfl⟩ := qc_some5 h
    exact ⟨qc_fm.rf _, qc_iconst (qc_at qkX8_isNoNumber 28 rfl) <| qc_zret (qc_at qkX8_isNoNumber 29 rfl) rfl (Or.inl rfl) (Nat.le_refl _) (Nat.le_refl _) ⟨rfl, rfl, rfl⟩⟩
  · replace h := qc_jp u1 h
    refine And.imp_right (fun hx => qc_lload_n (qc_at qkX8_isNoNumber 16 rfl) rfl <| qc_lconst (qc_at qkX8_isNoNumber 17 rfl) <| qc_iload_n (qc_at qkX8_isNoNumber 18 rfl) rfl <| qc_lshl (qc_at qkX8_isNoNumber 19 rfl) <| qc_lconst (qc_at qkX8_isNoNumber 20 rfl) <| qc_lsub (qc_at qkX8_isNoNumber 21 rfl) <| qc_land (qc_at qkX8_isNoNumber 22 rfl) <| qc_lconst (qc_at qkX8_isNoNumber 23 rfl) <| qc_lcmp (qc_at qkX8_isNoNumber 24 rfl) <| hx) ?_
    refine qc_andC (qc_if_eq (qc_at qkX8_isNoNumber 25 rfl)) (fun u2 => ?_) (fun u2 => ?_)
    · replace h := qc_jp u2 h
      obtain ⟨rfl, rfl, rfl, rfl, rfl⟩ := qc_some5 h
      exact ⟨qc_fm.rf _, qc_iconst (qc_at qkX8_isNoNumber 28 rfl) <| qc_zret (qc_at qkX8_isNoNumber 29 rfl) rfl (Or.inl rfl) (Nat.le_refl _) (Nat.le_refl _) ⟨rfl, rfl, rfl⟩⟩
    · replace h := qc_jn u2 h
      obtain ⟨rfl, rfl, rfl, rfl, rfl⟩ := qc_some5 h
      exact ⟨qc_fm.rf _, qc_iconst (qc_at qkX8_isNoNumber 26 rfl) <| qc_goto (qc_at qkX8_isNoNumber 27 rfl) <| qc_zret (qc_at qkX8_isNoNumber 29 rfl) rfl (Or.inr rfl) (Nat.le_refl _) (Nat.le_refl _) ⟨rfl, rfl, rfl⟩⟩
def fX8_isNoDouble (w : qcW) (I : qTI) (L : qTL) (D : qTD) (R : qTR) (x0 : Int64) : qcO Bool :=
  (qc_bd (fX8_isNoNumber w I L D R x0 (52 : Int32) (1023 : Int32)) fun r1 I1 L1 D1 R1 => some (r1, I1, L1, D1, R1))
set_option maxRecDepth 100000 in
set_option maxHeartbeats 4000000 in
theorem tX8_isNoDouble {w : qcW} {I : qTI} {L : qTL} {D : qTD} {R : qTR} {x0 : Int64} {r : Bool} {I' : qTI} {L' : qTL} {D' : qTD} {R' : qTR} (hn : qcNF ≤ w.1) (hR : qc_FR R) (h : fX8_isNoDouble w I L D R x0 = some (r, I', L', D', R')) : qc_fm qcSX (I, L, D, R) (I', L', D', R') ∧ qc_V (1) 0 0 qmX8_isNoDouble [.long x0] w (I, L, D, R) (qc_eq (some (.int (qc_b r))) w (I', L', D', R')) := by
  unfold fX8_isNoDouble at h
  refine And.imp_right (fun hx => qc_V.of rfl rfl (Nat.le_of_ble_eq_true rfl) (lv := [(0, .long x0)]) rfl hx) ?_
  refine And.imp_right (fun hx => qc_lload_n (qc_at qkX8_isNoDouble 0 rfl) rfl <| qc_bipush (qc_at qkX8_isNoDouble 1 rfl) <| qc_sipush (qc_at qkX8_isNoDouble 2 rfl) <| hx) ?_
  obtain ⟨r1, I1, L1, D1, R1, e1, h⟩ := qc_bd_of h
  have c1 := (tX8_isNoNumber hn hR e1)
  refine qd_cSv (qc_at qkX8_isNoDouble 3 rfl) ql_8_9 qfX8_isNoNumber c1 rfl rfl (Nat.le_of_ble_eq_true rfl) (qc_rml (by decide) (by decide)) ⟨Nat.zero_le _, Nat.zero_le _⟩ ?_
  obtain ⟨rfl, rfl, rfl, rfl, rfl⟩ := qc_some5 h
  exact ⟨qc_fm.rf _, qc_zret (qc_at qkX8_isNoDouble 4 rfl) rfl (qc_b01 _) (Nat.le_refl _) (Nat.le_refl _) (qc_eq.rf _ _ _)⟩
def fX8_isNoFloat (w : qcW) (I : qTI) (L : qTL) (D : qTD) (R : qTR) (x0 : Int32) : qcO Bool :=
  (qc_bd (fX8_isNoNumber w I L D R (Int32.toInt64 x0) (23 : Int32) (127 : Int32)) fun r1 I1 L1 D1 R1 => some (r1, I1, L1, D1, R1))
set_option maxRecDepth 100000 in
set_option maxHeartbeats 4000000 in
theorem tX8_isNoFloat {w : qcW} {I : qTI} {L : qTL} {D : qTD} {R : qTR} {x0 : Int32} {r : Bool} {I' : qTI} {L' : qTL} {D' : qTD} {R' : qTR} (hn : qcNF ≤ w.1) (hR : qc_FR R) (h : fX8_isNoFloat w I L D R x0 = some (r, I', L', D', R')) : qc_fm qcSX (I, L, D, R) (I', L', D', R') ∧ qc_V (1) 0 0 qmX8_isNoFloat [.int x0] w (I, L, D, R) (qc_eq (some (.int (qc_b r))) w (I', L', D', R')) := by
  unfold fX8_isNoFloat at h
  refine And.imp_right (fun hx => qc_V.of rfl rfl (Nat.le_of_ble_eq_true rfl) (lv := [(0, .int x0)]) rfl hx) ?_
  refine And.imp_right (fun hx => qc_iload_n (qc_at qkX8_isNoFloat 0 rfl) rfl <| qc_i2l (qc_at qkX8_isNoFloat 1 rfl) <| qc_bipush (qc_at qkX8_isNoFloat 2 rfl) <| qc_bipush (qc_at qkX8_isNoFloat 3 rfl) <| hx) ?_
  obtain ⟨r1, I1, L1, D1, R1, e1, h⟩ := qc_bd_of h
  have c1 := (tX8_isNoNumber hn hR e1)
  refine qd_cSv (qc_at qkX8_isNoFloat 4 rfl) ql_8_9 qfX8_isNoNumber c1 rfl rfl (Nat.le_of_ble_eq_true rfl) (qc_rml (by decide) (by decide)) ⟨Nat.zero_le _, Nat.zero_le _⟩ ?_
  obtain ⟨rfl, rfl, rfl, rfl, rfl⟩ := qc_some5 h
  exact ⟨qc_fm.rf _, qc_zret (qc_at qkX8_isNoFloat 5 rfl) rfl (qc_b01 _) (Nat.le_refl _) (Nat.le_refl _) (qc_eq.rf _ _ _)⟩
def fX8_twoTo_b6 (w : qcW) (k6 : qTI × qTL × qTD × qTR × Int32 × UInt64 × Int32 → qcO UInt64) (I : qTI) (L : qTL) (D : qTD) (R : qTR) (x0 : Int32) (x1 : UInt64) (x3 : Int32) : qcO UInt64 :=
  (if x0 ≤ x3 then (some (x1, I, L, D, R)) else (qc_gd (qc_n64 (FP.dmul x1 x1)) <| k6 (I, L, D, R, x0, (FP.dmul x1 x1), (x3 * (2 : Int32)))))
set_option maxRecDepth 100000 in
set_option maxHeartbeats 4000000 in
theorem tX8_twoTo_b6 {w : qcW} {I : qTI} {L : qTL} {D : qTD} {R : qTR} {k6 : qTI × qTL × qTD × qTR × Int32 × UInt64 × Int32 → qcO UInt64} {x0 : Int32} {x1 : UInt64} {x3 : Int32} {r : UInt64} {I' : qTI} {L' : qTL} {D' : qTD} {R' : qTR} (hn : qcNF ≤ w.1) (hR : qc_FR R) (hk6 : ∀ {I : qTI} {L : qTL} {D : qTD} {R : qTR} {x0 : Int32} {x1 : UInt64} {x3 : Int32} {r : UInt64} {I' : qTI} {L' : qTL} {D' : qTD} {R' : qTR}, qc_FR R → k6 (I, L, D, R, x0, x1, x3) = some (r, I', L', D', R') → qc_fm qcSX (I, L, D, R) (I', L', D', R') ∧ qc_X (qc_rm (0) 0 0) qmX8_twoTo (qc_QM 0 0 (qc_eq (some (.double r)) w (I', L', D', R'))) 0 0 w (6, [(0, .int x0), (1, .double x1), (3, .int x3)], [], I, L, D, R)) (h : fX8_twoTo_b6 w k6 I L D R x0 x1 x3 = some (r, I', L', D', R')) : qc_fm qcSX (I, L, D, R) (I', L', D', R') ∧ qc_X (qc_rm (0) 0 0) qmX8_twoTo (qc_QM 0 0 (qc_eq (some (.double r)) w (I', L', D', R'))) 0 0 w (6, [(0, .int x0), (1, .double x1), (3, .int x3)], [], I, L, D, R) := by
  unfold fX8_twoTo_b6 at h
  refine And.imp_right (fun hx => qc_iload_n (qc_at qkX8_twoTo 4 rfl) rfl <| qc_iload_n (qc_at qkX8_twoTo 5 rfl) rfl <| hx) ?_
  refine qc_andC (qc_icmp_ge (qc_at qkX8_twoTo 6 rfl)) (fun u1 => ?_) (fun u1 => ?_)
  · replace h := qc_jp u1 h
    obtain ⟨rfl, rfl, rfl, rfl, rfl⟩ := qc_some5 h
    exact ⟨qc_fm.rf _, qc_dload_n (qc_at qkX8_twoTo 16 rfl) rfl <| qc_dret (qc_at qkX8_twoTo 17 rfl) rfl (Nat.le_refl _) (Nat.le_refl _) (qc_eq.rf _ _ _)⟩
  · replace h := qc_jn u1 h
    refine And.imp_right (fun hx => qc_dload_n (qc_at qkX8_twoTo 7 rfl) rfl <| qc_dload_n (qc_at qkX8_twoTo 8 rfl) rfl <| hx) ?_
    obtain ⟨g2, h⟩ := qc_gd_of h
    replace g2 := qc_n64_of g2
    exact And.imp_right (fun hx => qc_dmul (qc_at qkX8_twoTo 9 rfl) g2 <| qc_dstore_n (lv' := [(1, _), (0, _), (3, _)]) (qc_at qkX8_twoTo 10 rfl) rfl rfl <| qc_iload_n (qc_at qkX8_twoTo 11 rfl) rfl <| qc_iconst (qc_at qkX8_twoTo 12 rfl) <| qc_imul (qc_at qkX8_twoTo 13 rfl) <| qc_istore_n (lv' := [(3, _), (1, _), (0, _)]) (qc_at qkX8_twoTo 14 rfl) rfl rfl <| qc_goto (qc_at qkX8_twoTo 15 rfl) <| qc_sub [2, 1, 0] rfl hx) (hk6 hR h)
def fX8_twoTo_l6 (w : qcW) : Nat → qTI × qTL × qTD × qTR × Int32 × UInt64 × Int32 → qcO UInt64 := qc_lp (fun k q => match q with | (I, L, D, R, x0, x1, x3) => fX8_twoTo_b6 w k I L D R x0 x1 x3)
set_option maxRecDepth 100000 in
set_option maxHeartbeats 4000000 in
theorem tX8_twoTo_l6 {w : qcW} (hn : qcNF ≤ w.1) : ∀ (n : Nat) {r : UInt64} {I' : qTI} {L' : qTL} {D' : qTD} {R' : qTR} {I : qTI} {L : qTL} {D : qTD} {R : qTR} {x0 : Int32} {x1 : UInt64} {x3 : Int32} (hR : qc_FR R) (h : fX8_twoTo_l6 w n (I, L, D, R, x0, x1, x3) = some (r, I', L', D', R')), qc_fm qcSX (I, L, D, R) (I', L', D', R') ∧ qc_X (qc_rm (0) 0 0) qmX8_twoTo (qc_QM 0 0 (qc_eq (some (.double r)) w (I', L', D', R'))) 0 0 w (6, [(0, .int x0), (1, .double x1), (3, .int x3)], [], I, L, D, R) := by
  intro n
  induction n with
  | zero => intro _ _ _ _ _ _ _ _ _ _ _ _ _ h; cases h
  | succ n ih => intro _ _ _ _ _ _ _ _ _ _ _ _ hR h; exact tX8_twoTo_b6 hn hR (k6 := fX8_twoTo_l6 w n) (fun hR h => ih hR h) h
def fX8_twoTo (w : qcW) (I : qTI) (L : qTL) (D : qTD) (R : qTR) (x0 : Int32) : qcO UInt64 :=
  (fX8_twoTo_l6 w qcF (I, L, D, R, x0, (4611686018427387904 : UInt64), (1 : Int32)))
set_option maxRecDepth 100000 in
set_option maxHeartbeats 4000000 in
theorem tX8_twoTo {w : qcW} {I : qTI} {L : qTL} {D : qTD} {R : qTR} {x0 : Int32} {r : UInt64} {I' : qTI} {L' : qTL} {D' : qTD} {R' : qTR} (hn : qcNF ≤ w.1) (hR : qc_FR R) (h : fX8_twoTo w I L D R x0 = some (r, I', L', D', R')) : qc_fm qcSX (I, L, D, R) (I', L', D', R') ∧ qc_V (0) 0 0 qmX8_twoTo [.int x0] w (I, L, D, R) (qc_eq (some (.double r)) w (I', L', D', R')) := by
  unfold fX8_twoTo at h
  refine And.imp_right (fun hx => qc_V.of rfl rfl (Nat.le_of_ble_eq_true rfl) (lv := [(0, .int x0)]) rfl hx) ?_
  exact And.imp_right (fun hx => qc_ldc2d (qc_at qkX8_twoTo 0 rfl) <| qc_dstore_n (lv' := [(1, _), (0, _)]) (qc_at qkX8_twoTo 1 rfl) rfl rfl <| qc_iconst (qc_at qkX8_twoTo 2 rfl) <| qc_istore_n (lv' := [(3, _), (1, _), (0, _)]) (qc_at qkX8_twoTo 3 rfl) rfl rfl <| qc_sub [2, 1, 0] rfl hx) (tX8_twoTo_l6 hn qcF hR h)
def fX8_scaled_b70 (w : qcW) (k17 : qTI × qTL × qTD × qTR × Int32 × UInt64 × Int32 × Int32 → qcO UInt64) (k28 : qTI × qTL × qTD × qTR × Int32 × UInt64 × Int32 × Int32 × Int32 → qcO UInt64) (I : qTI) (L : qTL) (D : qTD) (R : qTR) (x2 : Int32) (x3 : UInt64) (x5 : Int32) (x6 : Int32) (x7 : Int32) : qcO UInt64 :=
  (k28 (I, L, D, R, x2, x3, x5, x6, (x7 / (2 : Int32))))
set_option maxRecDepth 100000 in
set_option maxHeartbeats 4000000 in
theorem tX8_scaled_b70 {w : qcW} {I : qTI} {L : qTL} {D : qTD} {R : qTR} {k17 : qTI × qTL × qTD × qTR × Int32 × UInt64 × Int32 × Int32 → qcO UInt64} {k28 : qTI × qTL × qTD × qTR × Int32 × UInt64 × Int32 × Int32 × Int32 → qcO UInt64} {x2 : Int32} {x3 : UInt64} {x5 : Int32} {x6 : Int32} {x7 : Int32} {r : UInt64} {I' : qTI} {L' : qTL} {D' : qTD} {R' : qTR} (hn : qcNF ≤ w.1) (hR : qc_FR R) (hk17 : ∀ {I : qTI} {L : qTL} {D : qTD} {R : qTR} {x2 : Int32} {x3 : UInt64} {x5 : Int32} {x6 : Int32} {r : UInt64} {I' : qTI} {L' : qTL} {D' : qTD} {R' : qTR}, qc_FR R → k17 (I, L, D, R, x2, x3, x5, x6) = some (r, I', L', D', R') → qc_fm qcSX (I, L, D, R) (I', L', D', R') ∧ qc_X (qc_rm (1) 0 0) qmX8_scaled (qc_QM 0 0 (qc_eq (some (.double r)) w (I', L', D', R'))) 0 0 w (17, [(2, .int x2), (3, .double x3), (5, .int x5), (6, .int x6)], [], I, L, D, R)) (hk28 : ∀ {I : qTI} {L : qTL} {D : qTD} {R : qTR} {x2 : Int32} {x3 : UInt64} {x5 : Int32} {x6 : Int32} {x7 : Int32} {r : UInt64} {I' : qTI} {L' : qTL} {D' : qTD} {R' : qTR}, qc_FR R → k28 (I, L, D, R, x2, x3, x5, x6, x7) = some (r, I', L', D', R') → qc_fm qcSX (I, L, D, R) (I', L', D', R') ∧ qc_X (qc_rm (1) 0 0) qmX8_scaled (qc_QM 0 0 (qc_eq (some (.double r)) w (I', L', D', R'))) 0 0 w (28, [(2, .int x2), (3, .double x3), (5, .int x5), (6, .int x6), (7, .int x7)], [], I, L, D, R)) (h : fX8_scaled_b70 w k17 k28 I L D R x2 x3 x5 x6 x7 = some (r, I', L', D', R')) : qc_fm qcSX (I, L, D, R) (I', L', D', R') ∧ qc_X (qc_rm (1) 0 0) qmX8_scaled (qc_QM 0 0 (qc_eq (some (.double r)) w (I', L', D', R'))) 0 0 w (70, [(2, .int x2), (3, .double x3), (5, .int x5), (6, .int x6), (7, .int x7)], [], I, L, D, R) := by
  unfold fX8_scaled_b70 at h
  exact And.imp_right (fun hx => qc_iload (qc_at qkX8_scaled 38 rfl) rfl <| qc_iconst (qc_at qkX8_scaled 39 rfl) <| qc_idiv (qc_at qkX8_scaled 40 rfl) (by decide) <| qc_istore (lv' := [(7, _), (2, _), (3, _), (5, _), (6, _)]) (qc_at qkX8_scaled 41 rfl) rfl rfl <| qc_goto (qc_at qkX8_scaled 42 rfl) <| qc_sub [1, 2, 3, 4, 0] rfl hx) (hk28 hR h)
def fX8_scaled_b62 (w : qcW) (k17 : qTI × qTL × qTD × qTR × Int32 × UInt64 × Int32 × Int32 → qcO UInt64) (k28 : qTI × qTL × qTD × qTR × Int32 × UInt64 × Int32 × Int32 × Int32 → qcO UInt64) (I : qTI) (L : qTL) (D : qTD) (R : qTR) (x2 : Int32) (x5 : Int32) (x6 : Int32) (x7 : Int32) (s0 : UInt64) : qcO UInt64 :=
  (fX8_scaled_b70 w k17 k28 I L D R x2 s0 (x5 - x7) x6 x7)
set_option maxRecDepth 100000 in
set_option maxHeartbeats 4000000 in
theorem tX8_scaled_b62 {w : qcW} {I : qTI} {L : qTL} {D : qTD} {R : qTR} {k17 : qTI × qTL × qTD × qTR × Int32 × UInt64 × Int32 × Int32 → qcO UInt64} {k28 : qTI × qTL × qTD × qTR × Int32 × UInt64 × Int32 × Int32 × Int32 → qcO UInt64} {x2 : Int32} {x5 : Int32} {x6 : Int32} {x7 : Int32} {s0 : UInt64} {r : UInt64} {I' : qTI} {L' : qTL} {D' : qTD} {R' : qTR} (hn : qcNF ≤ w.1) (hR : qc_FR R) (hk17 : ∀ {I : qTI} {L : qTL} {D : qTD} {R : qTR} {x2 : Int32} {x3 : UInt64} {x5 : Int32} {x6 : Int32} {r : UInt64} {I' : qTI} {L' : qTL} {D' : qTD} {R' : qTR}, qc_FR R → k17 (I, L, D, R, x2, x3, x5, x6) = some (r, I', L', D', R') → qc_fm qcSX (I, L, D, R) (I', L', D', R') ∧ qc_X (qc_rm (1) 0 0) qmX8_scaled (qc_QM 0 0 (qc_eq (some (.double r)) w (I', L', D', R'))) 0 0 w (17, [(2, .int x2), (3, .double x3), (5, .int x5), (6, .int x6)], [], I, L, D, R)) (hk28 : ∀ {I : qTI} {L : qTL} {D : qTD} {R : qTR} {x2 : Int32} {x3 : UInt64} {x5 : Int32} {x6 : Int32} {x7 : Int32} {r : UInt64} {I' : qTI} {L' : qTL} {D' : qTD} {R' : qTR}, qc_FR R → k28 (I, L, D, R, x2, x3, x5, x6, x7) = some (r, I', L', D', R') → qc_fm qcSX (I, L, D, R) (I', L', D', R') ∧ qc_X (qc_rm (1) 0 0) qmX8_scaled (qc_QM 0 0 (qc_eq (some (.double r)) w (I', L', D', R'))) 0 0 w (28, [(2, .int x2), (3, .double x3), (5, .int x5), (6, .int x6), (7, .int x7)], [], I, L, D, R)) (h : fX8_scaled_b62 w k17 k28 I L D R x2 x5 x6 x7 s0 = some (r, I', L', D', R')) : qc_fm qcSX (I, L, D, R) (I', L', D', R') ∧ qc_X (qc_rm (1) 0 0) qmX8_scaled (qc_QM 0 0 (qc_eq (some (.double r)) w (I', L', D', R'))) 0 0 w (62, [(2, .int x2), (5, .int x5), (6, .int x6), (7, .int x7)], [.double s0], I, L, D, R) := by
  unfold fX8_scaled_b62 at h
  exact And.imp_right (fun hx => qc_dstore_n (lv' := [(3, _), (2, _), (5, _), (6, _), (7, _)]) (qc_at qkX8_scaled 33 rfl) rfl rfl <| qc_iload (qc_at qkX8_scaled 34 rfl) rfl <| qc_iload (qc_at qkX8_scaled 35 rfl) rfl <| qc_isub (qc_at qkX8_scaled 36 rfl) <| qc_istore (lv' := [(5, _), (3, _), (2, _), (6, _), (7, _)]) (qc_at qkX8_scaled 37 rfl) rfl rfl <| qc_sub [2, 1, 0, 3, 4] rfl hx) (tX8_scaled_b70 hn hR hk17 hk28 h)
def fX8_scaled_b28 (w : qcW) (k17 : qTI × qTL × qTD × qTR × Int32 × UInt64 × Int32 × Int32 → qcO UInt64) (k28 : qTI × qTL × qTD × qTR × Int32 × UInt64 × Int32 × Int32 × Int32 → qcO UInt64) (I : qTI) (L : qTL) (D : qTD) (R : qTR) (x2 : Int32) (x3 : UInt64) (x5 : Int32) (x6 : Int32) (x7 : Int32) : qcO UInt64 :=
  (if x7 < (1 : Int32) then (k17 (I, L, D, R, x2, x3, x5, (x6 + (1)))) else (if x5 < x7 then (fX8_scaled_b70 w k17 k28 I L D R x2 x3 x5 x6 x7) else (if 0 ≤ x2 then (qc_bd (fX8_twoTo w I L D R x7) fun r4 I4 L4 D4 R4 => qc_gd (qc_n64 (FP.dmul x3 r4)) <| fX8_scaled_b62 w k17 k28 I4 L4 D4 R4 x2 x5 x6 x7 (FP.dmul x3 r4)) else (qc_bd (fX8_twoTo w I L D R x7) fun r6 I6 L6 D6 R6 => qc_gd (qc_n64 (FP.ddiv x3 r6)) <| fX8_scaled_b62 w k17 k28 I6 L6 D6 R6 x2 x5 x6 x7 (FP.ddiv x3 r6)))))
set_option maxRecDepth 100000 in
set_option maxHeartbeats 4000000 in
theorem tX8_scaled_b28 {w : qcW} {I : qTI} {L : qTL} {D : qTD} {R : qTR} {k17 : qTI × qTL × qTD × qTR × Int32 × UInt64 × Int32 × Int32 → qcO UInt64} {k28 : qTI × qTL × qTD × qTR × Int32 × UInt64 × Int32 × Int32 × Int32 → qcO UInt64} {x2 : Int32} {x3 : UInt64} {x5 : Int32} {x6 : Int32} {x7 : Int32} {r : UInt64} {I' : qTI} {L' : qTL} {D' : qTD} {R' : qTR} (hn : qcNF ≤ w.1) (hR : qc_FR R) (hk17 : ∀ {I : qTI} {L : qTL} {D : qTD} {R : qTR} {x2 : Int32} {x3 : UInt64} {x5 : Int32} {x6 : Int32} {r : UInt64} {I' : qTI} {L' : qTL} {D' : qTD} {R' : qTR}, qc_FR R → k17 (I, L, D, R, x2, x3, x5, x6) = some (r, I', L', D', R') → qc_fm qcSX (I, L, D, R) (I', L', D', R') ∧ qc_X (qc_rm (1) 0 0) qmX8_scaled (qc_QM 0 0 (qc_eq (some (.double r)) w (I', L', D', R'))) 0 0 w (17, [(2, .int x2), (3, .double x3), (5, .int x5), (6, .int x6)], [], I, L, D, R)) (hk28 : ∀ {I : qTI} {L : qTL} {D : qTD} {R : qTR} {x2 : Int32} {x3 : UInt64} {x5 : Int32} {x6 : Int32} {x7 : Int32} {r : UInt64} {I' : qTI} {L' : qTL} {D' : qTD} {R' : qTR}, qc_FR R → k28 (I, L, D, R, x2, x3, x5, x6, x7) = some (r, I', L', D', R') → qc_fm qcSX (I, L, D, R) (I', L', D', R') ∧ qc_X (qc_rm (1) 0 0) qmX8_scaled (qc_QM 0 0 (qc_eq (some (.double r)) w (I', L', D', R'))) 0 0 w (28, [(2, .int x2), (3, .double x3), (5, .int x5), (6, .int x6), (7, .int x7)], [], I, L, D, R)) (h : fX8_scaled_b28 w k17 k28 I L D R x2 x3 x5 x6 x7 = some (r, I', L', D', R')) : qc_fm qcSX (I, L, D, R) (I', L', D', R') ∧ qc_X (qc_rm (1) 0 0) qmX8_scaled (qc_QM 0 0 (qc_eq (some (.double r)) w (I', L', D', R'))) 0 0 w (28, [(2, .int x2), (3, .double x3), (5, .int x5), (6, .int x6), (7, .int x7)], [], I, L, D, R) := by
  unfold fX8_scaled_b28 at h
  refine And.imp_right (fun hx => qc_iload (qc_at qkX8_scaled 16 rfl) rfl <| qc_iconst (qc_at qkX8_scaled 17 rfl) <| hx) ?_
  refine qc_andC (qc_icmp_lt (qc_at qkX8_scaled 18 rfl)) (fun u1 => ?_) (fun u1 => ?_)
  · replace h := qc_jp u1 h
    exact And.imp_right (fun hx => qc_iinc (lv' := [(6, _), (2, _), (3, _), (5, _), (7, _)]) (qc_at qkX8_scaled 43 rfl) rfl rfl rfl <| qc_goto (qc_at qkX8_scaled 44 rfl) <| qc_sub [1, 2, 3, 0] rfl hx) (hk17 hR h)
  · replace h := qc_jn u1 h
    refine And.imp_right (fun hx => qc_iload (qc_at qkX8_scaled 19 rfl) rfl <| qc_iload (qc_at qkX8_scaled 20 rfl) rfl <| hx) ?_
    refine qc_andC (qc_icmp_lt (qc_at qkX8_scaled 21 rfl)) (fun u2 => ?_) (fun u2 => ?_)
    · replace h := qc_jp u2 h
      exact And.imp_right (fun hx => qc_sub [0, 1, 2, 3, 4] rfl hx) (tX8_scaled_b70 hn hR hk17 hk28 h)
    · replace h := qc_jn u2 h
      refine And.imp_right (fun hx => qc_iload_n (qc_at qkX8_scaled 22 rfl) rfl <| hx) ?_
      refine qc_andC (qc_if_ge (qc_at qkX8_scaled 23 rfl)) (fun u3 => ?_) (fun u3 => ?_)
      · replace h := qc_jp u3 h
        refine And.imp_right (fun hx => qc_dload_n (qc_at qkX8_scaled 29 rfl) rfl <| qc_iload (qc_at qkX8_scaled 30 rfl) rfl <| hx) ?_
        obtain ⟨r4, I4, L4, D4, R4, e4, h⟩ := qc_bd_of h
        have c4 := (tX8_twoTo hn hR e4)
        refine qd_cSv (qc_at qkX8_scaled 31 rfl) ql_8_53 qfX8_twoTo c4 rfl rfl (Nat.le_of_ble_eq_true rfl) (qc_rml (by decide) (by decide)) ⟨Nat.zero_le _, Nat.zero_le _⟩ ?_
        obtain ⟨g5, h⟩ := qc_gd_of h
        replace g5 := qc_n64_of g5
        exact And.imp_right (fun hx => qc_dmul (qc_at qkX8_scaled 32 rfl) g5 <| qc_sub [0, 2, 3, 4] rfl hx) (tX8_scaled_b62 hn (c4.1.1 hR) hk17 hk28 h)
      · replace h := qc_jn u3 h
        refine And.imp_right (fun hx => qc_dload_n (qc_at qkX8_scaled 24 rfl) rfl <| qc_iload (qc_at qkX8_scaled 25 rfl) rfl <| hx) ?_
        obtain ⟨r6, I6, L6, D6, R6, e6, h⟩ := qc_bd_of h
        have c6 := (tX8_twoTo hn hR e6)
        refine qd_cSv (qc_at qkX8_scaled 26 rfl) ql_8_53 qfX8_twoTo c6 rfl rfl (Nat.le_of_ble_eq_true rfl) (qc_rml (by decide) (by decide)) ⟨Nat.zero_le _, Nat.zero_le _⟩ ?_
        obtain ⟨g7, h⟩ := qc_gd_of h
        replace g7 := qc_n64_of g7
        exact And.imp_right (fun hx => qc_ddiv (qc_at qkX8_scaled 27 rfl) g7 <| qc_goto (qc_at qkX8_scaled 28 rfl) <| qc_sub [0, 2, 3, 4] rfl hx) (tX8_scaled_b62 hn (c6.1.1 hR) hk17 hk28 h)
def fX8_scaled_l28 (w : qcW) (k17 : qTI × qTL × qTD × qTR × Int32 × UInt64 × Int32 × Int32 → qcO UInt64) : Nat → qTI × qTL × qTD × qTR × Int32 × UInt64 × Int32 × Int32 × Int32 → qcO UInt64 := qc_lp (fun k q => match q with | (I, L, D, R, x2, x3, x5, x6, x7) => fX8_scaled_b28 w k17 k I L D R x2 x3 x5 x6 x7)
set_option maxRecDepth 100000 in
set_option maxHeartbeats 4000000 in
theorem tX8_scaled_l28 {w : qcW} {k17 : qTI × qTL × qTD × qTR × Int32 × UInt64 × Int32 × Int32 → qcO UInt64} (hn : qcNF ≤ w.1) (hk17 : ∀ {I : qTI} {L : qTL} {D : qTD} {R : qTR} {x2 : Int32} {x3 : UInt64} {x5 : Int32} {x6 : Int32} {r : UInt64} {I' : qTI} {L' : qTL} {D' : qTD} {R' : qTR}, qc_FR R → k17 (I, L, D, R, x2, x3, x5, x6) = some (r, I', L', D', R') → qc_fm qcSX (I, L, D, R) (I', L', D', R') ∧ qc_X (qc_rm (1) 0 0) qmX8_scaled (qc_QM 0 0 (qc_eq (some (.double r)) w (I', L', D', R'))) 0 0 w (17, [(2, .int x2), (3, .double x3), (5, .int x5), (6, .int x6)], [], I, L, D, R)) : ∀ (n : Nat) {r : UInt64} {I' : qTI} {L' : qTL} {D' : qTD} {R' : qTR} {I : qTI} {L : qTL} {D : qTD} {R : qTR} {x2 : Int32} {x3 : UInt64} {x5 : Int32} {x6 : Int32} {x7 : Int32} (hR : qc_FR R) (h : fX8_scaled_l28 w k17 n (I, L, D, R, x2, x3, x5, x6, x7) = some (r, I', L', D', R')), qc_fm qcSX (I, L, D, R) (I', L', D', R') ∧ qc_X (qc_rm (1) 0 0) qmX8_scaled (qc_QM 0 0 (qc_eq (some (.double r)) w (I', L', D', R'))) 0 0 w (28, [(2, .int x2), (3, .double x3), (5, .int x5), (6, .int x6), (7, .int x7)], [], I, L, D, R) := by
  intro n
  induction n with
  | zero => intro _ _ _ _ _ _ _ _ _ _ _ _ _ _ _ h; cases h
  | succ n ih => intro _ _ _ _ _ _ _ _ _ _ _ _ _ _ hR h; exact tX8_scaled_b28 hn hR hk17 (k28 := fX8_scaled_l28 w k17 n) (fun hR h => ih hR h) h
def fX8_scaled_b17 (w : qcW) (k17 : qTI × qTL × qTD × qTR × Int32 × UInt64 × Int32 × Int32 → qcO UInt64) (I : qTI) (L : qTL) (D : qTD) (R : qTR) (x2 : Int32) (x3 : UInt64) (x5 : Int32) (x6 : Int32) : qcO UInt64 :=
  (if (2 : Int32) ≤ x6 then (some (x3, I, L, D, R)) else (fX8_scaled_l28 w k17 qcF (I, L, D, R, x2, x3, x5, x6, (512 : Int32))))
set_option maxRecDepth 100000 in
set_option maxHeartbeats 4000000 in
theorem tX8_scaled_b17 {w : qcW} {I : qTI} {L : qTL} {D : qTD} {R : qTR} {k17 : qTI × qTL × qTD × qTR × Int32 × UInt64 × Int32 × Int32 → qcO UInt64} {x2 : Int32} {x3 : UInt64} {x5 : Int32} {x6 : Int32} {r : UInt64} {I' : qTI} {L' : qTL} {D' : qTD} {R' : qTR} (hn : qcNF ≤ w.1) (hR : qc_FR R) (hk17 : ∀ {I : qTI} {L : qTL} {D : qTD} {R : qTR} {x2 : Int32} {x3 : UInt64} {x5 : Int32} {x6 : Int32} {r : UInt64} {I' : qTI} {L' : qTL} {D' : qTD} {R' : qTR}, qc_FR R → k17 (I, L, D, R, x2, x3, x5, x6) = some (r, I', L', D', R') → qc_fm qcSX (I, L, D, R) (I', L', D', R') ∧ qc_X (qc_rm (1) 0 0) qmX8_scaled (qc_QM 0 0 (qc_eq (some (.double r)) w (I', L', D', R'))) 0 0 w (17, [(2, .int x2), (3, .double x3), (5, .int x5), (6, .int x6)], [], I, L, D, R)) (h : fX8_scaled_b17 w k17 I L D R x2 x3 x5 x6 = some (r, I', L', D', R')) : qc_fm qcSX (I, L, D, R) (I', L', D', R') ∧ qc_X (qc_rm (1) 0 0) qmX8_scaled (qc_QM 0 0 (qc_eq (some (.double r)) w (I', L', D', R'))) 0 0 w (17, [(2, .int x2), (3, .double x3), (5, .int x5), (6, .int x6)], [], I, L, D, R) := by
  unfold fX8_scaled_b17 at h
  refine And.imp_right (fun hx => qc_iload (qc_at qkX8_scaled 11 rfl) rfl <| qc_iconst (qc_at qkX8_scaled 12 rfl) <| hx) ?_
  refine qc_andC (qc_icmp_ge (qc_at qkX8_scaled 13 rfl)) (fun u8 => ?_) (fun u8 => ?_)
  · replace h := qc_jp u8 h
    obtain ⟨rfl, rfl, rfl, rfl, rfl⟩ := qc_some5 h
    exact ⟨qc_fm.rf _, qc_dload_n (qc_at qkX8_scaled 45 rfl) rfl <| qc_dret (qc_at qkX8_scaled 46 rfl) rfl (Nat.le_refl _) (Nat.le_refl _) (qc_eq.rf _ _ _)⟩
  · replace h := qc_jn u8 h
    exact And.imp_right (fun hx => qc_sipush (qc_at qkX8_scaled 14 rfl) <| qc_istore (lv' := [(7, _), (2, _), (3, _), (5, _), (6, _)]) (qc_at qkX8_scaled 15 rfl) rfl rfl <| qc_sub [1, 2, 3, 4, 0] rfl hx) (tX8_scaled_l28 hn hk17 qcF hR h)
def fX8_scaled_l17 (w : qcW) : Nat → qTI × qTL × qTD × qTR × Int32 × UInt64 × Int32 × Int32 → qcO UInt64 := qc_lp (fun k q => match q with | (I, L, D, R, x2, x3, x5, x6) => fX8_scaled_b17 w k I L D R x2 x3 x5 x6)
set_option maxRecDepth 100000 in
set_option maxHeartbeats 4000000 in
theorem tX8_scaled_l17 {w : qcW} (hn : qcNF ≤ w.1) : ∀ (n : Nat) {r : UInt64} {I' : qTI} {L' : qTL} {D' : qTD} {R' : qTR} {I : qTI} {L : qTL} {D : qTD} {R : qTR} {x2 : Int32} {x3 : UInt64} {x5 : Int32} {x6 : Int32} (hR : qc_FR R) (h : fX8_scaled_l17 w n (I, L, D, R, x2, x3, x5, x6) = some (r, I', L', D', R')), qc_fm qcSX (I, L, D, R) (I', L', D', R') ∧ qc_X (qc_rm (1) 0 0) qmX8_scaled (qc_QM 0 0 (qc_eq (some (.double r)) w (I', L', D', R'))) 0 0 w (17, [(2, .int x2), (3, .double x3), (5, .int x5), (6, .int x6)], [], I, L, D, R) := by
  intro n
  induction n with
  | zero => intro _ _ _ _ _ _ _ _ _ _ _ _ _ _ h; cases h
  | succ n ih => intro _ _ _ _ _ _ _ _ _ _ _ _ _ hR h; exact tX8_scaled_b17 hn hR (k17 := fX8_scaled_l17 w n) (fun hR h => ih hR h) h
def fX8_scaled_b12 (w : qcW) (I : qTI) (L : qTL) (D : qTD) (R : qTR) (x2 : Int32) (x3 : UInt64) (s0 : Int32) : qcO UInt64 :=
  (fX8_scaled_l17 w qcF (I, L, D, R, x2, x3, s0, (0 : Int32)))
set_option maxRecDepth 100000 in
set_option maxHeartbeats 4000000 in
theorem tX8_scaled_b12 {w : qcW} {I : qTI} {L : qTL} {D : qTD} {R : qTR} {x2 : Int32} {x3 : UInt64} {s0 : Int32} {r : UInt64} {I' : qTI} {L' : qTL} {D' : qTD} {R' : qTR} (hn : qcNF ≤ w.1) (hR : qc_FR R) (h : fX8_scaled_b12 w I L D R x2 x3 s0 = some (r, I', L', D', R')) : qc_fm qcSX (I, L, D, R) (I', L', D', R') ∧ qc_X (qc_rm (1) 0 0) qmX8_scaled (qc_QM 0 0 (qc_eq (some (.double r)) w (I', L', D', R'))) 0 0 w (12, [(2, .int x2), (3, .double x3)], [.int s0], I, L, D, R) := by
  unfold fX8_scaled_b12 at h
  exact And.imp_right (fun hx => qc_istore (lv' := [(5, _), (2, _), (3, _)]) (qc_at qkX8_scaled 8 rfl) rfl rfl <| qc_iconst (qc_at qkX8_scaled 9 rfl) <| qc_istore (lv' := [(6, _), (5, _), (2, _), (3, _)]) (qc_at qkX8_scaled 10 rfl) rfl rfl <| qc_sub [2, 3, 1, 0] rfl hx) (tX8_scaled_l17 hn qcF hR h)
def fX8_scaled (w : qcW) (I : qTI) (L : qTL) (D : qTD) (R : qTR) (x0 : UInt64) (x2 : Int32) : qcO UInt64 :=
  (if 0 ≤ x2 then (fX8_scaled_b12 w I L D R x2 x0 x2) else (fX8_scaled_b12 w I L D R x2 x0 (-x2)))
set_option maxRecDepth 100000 in
set_option maxHeartbeats 4000000 in
theorem tX8_scaled {w : qcW} {I : qTI} {L : qTL} {D : qTD} {R : qTR} {x0 : UInt64} {x2 : Int32} {r : UInt64} {I' : qTI} {L' : qTL} {D' : qTD} {R' : qTR} (hn : qcNF ≤ w.1) (hR : qc_FR R) (h : fX8_scaled w I L D R x0 x2 = some (r, I', L', D', R')) : qc_fm qcSX (I, L, D, R) (I', L', D', R') ∧ qc_V (1) 0 0 qmX8_scaled [.double x0, .int x2] w (I, L, D, R) (qc_eq (some (.double r)) w (I', L', D', R')) := by
  unfold fX8_scaled at h
  refine And.imp_right (fun hx => qc_V.of rfl rfl (Nat.le_of_ble_eq_true rfl) (lv := [(0, .double x0), (2, .int x2)]) rfl hx) ?_
  refine And.imp_right (fun hx => qc_dload_n (qc_at qkX8_scaled 0 rfl) rfl <| qc_dstore_n (lv' := [(3, _), (0, _), (2, _)]) (qc_at qkX8_scaled 1 rfl) rfl rfl <| qc_iload_n (qc_at qkX8_scaled 2 rfl) rfl <| hx) ?_
  refine qc_andC (qc_if_ge (qc_at qkX8_scaled 3 rfl)) (fun u9 => ?_) (fun u9 => ?_)
  · replace h := qc_jp u9 h
    exact And.imp_right (fun hx => qc_iload_n (qc_at qkX8_scaled 7 rfl) rfl <| qc_sub [2, 0] rfl hx) (tX8_scaled_b12 hn hR h)
  · replace h := qc_jn u9 h
    exact And.imp_right (fun hx => qc_iload_n (qc_at qkX8_scaled 4 rfl) rfl <| qc_ineg (qc_at qkX8_scaled 5 rfl) <| qc_goto (qc_at qkX8_scaled 6 rfl) <| qc_sub [2, 0] rfl hx) (tX8_scaled_b12 hn hR h)
def fX8_decoded_b80 (w : qcW) (I : qTI) (L : qTL) (D : qTD) (R : qTR) (x0 : Int64) (x8 : UInt64) : qcO UInt64 :=
  (if 0 ≤ (lg_cmp x0 (0 : Int64)) then (some (x8, I, L, D, R)) else (some ((FP.dneg x8), I, L, D, R)))
set_option maxRecDepth 100000 in
set_option maxHeartbeats 4000000 in
theorem tX8_decoded_b80 {w : qcW} {I : qTI} {L : qTL} {D : qTD} {R : qTR} {x0 : Int64} {x8 : UInt64} {r : UInt64} {I' : qTI} {L' : qTL} {D' : qTD} {R' : qTR} (hn : qcNF ≤ w.1) (hR : qc_FR R) (h : fX8_decoded_b80 w I L D R x0 x8 = some (r, I', L', D', R')) : qc_fm qcSX (I, L, D, R) (I', L', D', R') ∧ qc_X (qc_rm (2) 0 0) qmX8_decoded (qc_QM 0 0 (qc_eq (some (.double r)) w (I', L', D', R'))) 0 0 w (80, [(0, .long x0), (8, .double x8)], [], I, L, D, R) := by
  unfold fX8_decoded_b80 at h
  refine And.imp_right (fun hx => qc_lload_n (qc_at qkX8_decoded 53 rfl) rfl <| qc_lconst (qc_at qkX8_decoded 54 rfl) <| qc_lcmp (qc_at qkX8_decoded 55 rfl) <| hx) ?_
  refine qc_andC (qc_if_ge (qc_at qkX8_decoded 56 rfl)) (fun u1 => ?_) (fun u1 => ?_)
  · replace h := qc_jp u1 h
    obtain ⟨rfl, rfl, rfl, rfl, rfl⟩ := qc_some5 h
    exact ⟨qc_fm.rf _, qc_dload (qc_at qkX8_decoded 60 rfl) rfl <| qc_dret (qc_at qkX8_decoded 61 rfl) rfl (Nat.le_refl _) (Nat.le_refl _) (qc_eq.rf _ _ _)⟩
  · replace h := qc_jn u1 h
    obtain ⟨rfl, rfl, rfl, rfl, rfl⟩ := qc_some5 h
    exact ⟨qc_fm.rf _, qc_dload (qc_at qkX8_decoded 57 rfl) rfl <| qc_dneg (qc_at qkX8_decoded 58 rfl) <| qc_goto (qc_at qkX8_decoded 59 rfl) <| qc_dret (qc_at qkX8_decoded 61 rfl) rfl (Nat.le_refl _) (Nat.le_refl _) (qc_eq.rf _ _ _)⟩
def fX8_decoded (w : qcW) (I : qTI) (L : qTL) (D : qTD) (R : qTR) (x0 : Int64) (x2 : Int32) (x3 : Int32) : qcO UInt64 :=
  (if (Int64.toInt32 ((UInt64.toInt64 (Int64.toUInt64 x0 >>> (Int64.toUInt64 (Int32.toInt64 x2) &&& Int64.toUInt64 63))) &&& (Int32.toInt64 (((2 : Int32) * x3) + (1 : Int32))))) = (((2 : Int32) * x3) + (1 : Int32)) then (fX8_decoded_b80 w I L D R x0 (9218868437227405312 : UInt64)) else (if (Int64.toInt32 ((UInt64.toInt64 (Int64.toUInt64 x0 >>> (Int64.toUInt64 (Int32.toInt64 x2) &&& Int64.toUInt64 63))) &&& (Int32.toInt64 (((2 : Int32) * x3) + (1 : Int32))))) = 0 then (qc_bd (fX8_scaled w I L D R (FP.l2d (x0 &&& (((1 : Int64) <<< (Int32.toInt64 x2 &&& 63)) - (1 : Int64)))) (((1 : Int32) - x3) - x2)) fun r5 I5 L5 D5 R5 => fX8_decoded_b80 w I5 L5 D5 R5 x0 r5) else (qc_bd (fX8_scaled w I L D R (FP.l2d ((x0 &&& (((1 : Int64) <<< (Int32.toInt64 x2 &&& 63)) - (1 : Int64))) + ((1 : Int64) <<< (Int32.toInt64 x2 &&& 63)))) (((Int64.toInt32 ((UInt64.toInt64 (Int64.toUInt64 x0 >>> (Int64.toUInt64 (Int32.toInt64 x2) &&& Int64.toUInt64 63))) &&& (Int32.toInt64 (((2 : Int32) * x3) + (1 : Int32))))) - x3) - x2)) fun r4 I4 L4 D4 R4 => fX8_decoded_b80 w I4 L4 D4 R4 x0 r4)))
set_option maxRecDepth 100000 in
set_option maxHeartbeats 4000000 in
theorem tX8_decoded {w : qcW} {I : qTI} {L : qTL} {D : qTD} {R : qTR} {x0 : Int64} {x2 : Int32} {x3 : Int32} {r : UInt64} {I' : qTI} {L' : qTL} {D' : qTD} {R' : qTR} (hn : qcNF ≤ w.1) (hR : qc_FR R) (h : fX8_decoded w I L D R x0 x2 x3 = some (r, I', L', D', R')) : qc_fm qcSX (I, L, D, R) (I', L', D', R') ∧ qc_V (2) 0 0 qmX8_decoded [.long x0, .int x2, .int x3] w (I, L, D, R) (qc_eq (some (.double r)) w (I', L', D', R')) := by
  unfold fX8_decoded at h
  refine And.imp_right (fun hx => qc_V.of rfl rfl (Nat.le_of_ble_eq_true rfl) (lv := [(0, .long x0), (2, .int x2), (3, .int x3)]) rfl hx) ?_
  refine And.imp_right (fun hx => qc_iconst (qc_at qkX8_decoded 0 rfl) <| qc_iload_n (qc_at qkX8_decoded 1 rfl) rfl <| qc_imul (qc_at qkX8_decoded 2 rfl) <| qc_iconst (qc_at qkX8_decoded 3 rfl) <| qc_iadd (qc_at qkX8_decoded 4 rfl) <| qc_istore (lv' := [(4, _), (0, _), (2, _), (3, _)]) (qc_at qkX8_decoded 5 rfl) rfl rfl <| qc_lload_n (qc_at qkX8_decoded 6 rfl) rfl <| qc_iload_n (qc_at qkX8_decoded 7 rfl) rfl <| qc_lushr (qc_at qkX8_decoded 8 rfl) <| qc_iload (qc_at qkX8_decoded 9 rfl) rfl <| qc_i2l (qc_at qkX8_decoded 10 rfl) <| qc_land (qc_at qkX8_decoded 11 rfl) <| qc_l2i (qc_at qkX8_decoded 12 rfl) <| qc_istore (lv' := [(5, _), (4, _), (0, _), (2, _), (3, _)]) (qc_at qkX8_decoded 13 rfl) rfl rfl <| qc_lload_n (qc_at qkX8_decoded 14 rfl) rfl <| qc_lconst (qc_at qkX8_decoded 15 rfl) <| qc_iload_n (qc_at qkX8_decoded 16 rfl) rfl <| qc_lshl (qc_at qkX8_decoded 17 rfl) <| qc_lconst (qc_at qkX8_decoded 18 rfl) <| qc_lsub (qc_at qkX8_decoded 19 rfl) <| qc_land (qc_at qkX8_decoded 20 rfl) <| qc_lstore (lv' := [(6, _), (5, _), (4, _), (0, _), (2, _), (3, _)]) (qc_at qkX8_decoded 21 rfl) rfl rfl <| qc_iload (qc_at qkX8_decoded 22 rfl) rfl <| qc_iload (qc_at qkX8_decoded 23 rfl) rfl <| hx) ?_
  refine qc_andN (qc_icmp_ne (qc_at qkX8_decoded 24 rfl)) (fun u2 => ?_) (fun u2 => ?_)
  · replace h := qc_jn u2 h
    refine And.imp_right (fun hx => qc_iload (qc_at qkX8_decoded 28 rfl) rfl <| hx) ?_
    refine qc_andN (qc_if_ne (qc_at qkX8_decoded 29 rfl)) (fun u3 => ?_) (fun u3 => ?_)
    · replace h := qc_jn u3 h
      refine And.imp_right (fun hx => qc_lload (qc_at qkX8_decoded 40 rfl) rfl <| qc_lconst (qc_at qkX8_decoded 41 rfl) <| qc_iload_n (qc_at qkX8_decoded 42 rfl) rfl <| qc_lshl (qc_at qkX8_decoded 43 rfl) <| qc_ladd (qc_at qkX8_decoded 44 rfl) <| qc_l2d (qc_at qkX8_decoded 45 rfl) <| qc_iload (qc_at qkX8_decoded 46 rfl) rfl <| qc_iload_n (qc_at qkX8_decoded 47 rfl) rfl <| qc_isub (qc_at qkX8_decoded 48 rfl) <| qc_iload_n (qc_at qkX8_decoded 49 rfl) rfl <| qc_isub (qc_at qkX8_decoded 50 rfl) <| hx) ?_
      obtain ⟨r4, I4, L4, D4, R4, e4, h⟩ := qc_bd_of h
      have c4 := (tX8_scaled hn hR e4)
      refine qd_cSv (qc_at qkX8_decoded 51 rfl) ql_8_34 qfX8_scaled c4 rfl rfl (Nat.le_of_ble_eq_true rfl) (qc_rml (by decide) (by decide)) ⟨Nat.zero_le _, Nat.zero_le _⟩ ?_
      exact And.imp_right (fun hx => qc_dstore (lv' := [(8, _), (6, _), (5, _), (4, _), (0, _), (2, _), (3, _)]) (qc_at qkX8_decoded 52 rfl) rfl rfl <| qc_sub [4, 0] rfl hx) (tX8_decoded_b80 hn (c4.1.1 hR) h)
    · replace h := qc_jp u3 h
      refine And.imp_right (fun hx => qc_lload (qc_at qkX8_decoded 30 rfl) rfl <| qc_l2d (qc_at qkX8_decoded 31 rfl) <| qc_iconst (qc_at qkX8_decoded 32 rfl) <| qc_iload_n (qc_at qkX8_decoded 33 rfl) rfl <| qc_isub (qc_at qkX8_decoded 34 rfl) <| qc_iload_n (qc_at qkX8_decoded 35 rfl) rfl <| qc_isub (qc_at qkX8_decoded 36 rfl) <| hx) ?_
      obtain ⟨r5, I5, L5, D5, R5, e5, h⟩ := qc_bd_of h
      have c5 := (tX8_scaled hn hR e5)
      refine qd_cSv (qc_at qkX8_decoded 37 rfl) ql_8_34 qfX8_scaled c5 rfl rfl (Nat.le_of_ble_eq_true rfl) (qc_rml (by decide) (by decide)) ⟨Nat.zero_le _, Nat.zero_le _⟩ ?_
      exact And.imp_right (fun hx => qc_dstore (lv' := [(8, _), (6, _), (5, _), (4, _), (0, _), (2, _), (3, _)]) (qc_at qkX8_decoded 38 rfl) rfl rfl <| qc_goto (qc_at qkX8_decoded 39 rfl) <| qc_sub [4, 0] rfl hx) (tX8_decoded_b80 hn (c5.1.1 hR) h)
  · replace h := qc_jp u2 h
    exact And.imp_right (fun hx => qc_ldc2d (qc_at qkX8_decoded 25 rfl) <| qc_dstore (lv' := [(8, _), (6, _), (5, _), (4, _), (0, _), (2, _), (3, _)]) (qc_at qkX8_decoded 26 rfl) rfl rfl <| qc_goto (qc_at qkX8_decoded 27 rfl) <| qc_sub [4, 0] rfl hx) (tX8_decoded_b80 hn hR h)
def fX8_doubleOf (w : qcW) (I : qTI) (L : qTL) (D : qTD) (R : qTR) (x0 : Int64) : qcO UInt64 :=
  (qc_bd (fX8_decoded w I L D R x0 (52 : Int32) (1023 : Int32)) fun r1 I1 L1 D1 R1 => some (r1, I1, L1, D1, R1))
set_option maxRecDepth 100000 in
set_option maxHeartbeats 4000000 in
theorem tX8_doubleOf {w : qcW} {I : qTI} {L : qTL} {D : qTD} {R : qTR} {x0 : Int64} {r : UInt64} {I' : qTI} {L' : qTL} {D' : qTD} {R' : qTR} (hn : qcNF ≤ w.1) (hR : qc_FR R) (h : fX8_doubleOf w I L D R x0 = some (r, I', L', D', R')) : qc_fm qcSX (I, L, D, R) (I', L', D', R') ∧ qc_V (3) 0 0 qmX8_doubleOf [.long x0] w (I, L, D, R) (qc_eq (some (.double r)) w (I', L', D', R')) := by
  unfold fX8_doubleOf at h
  refine And.imp_right (fun hx => qc_V.of rfl rfl (Nat.le_of_ble_eq_true rfl) (lv := [(0, .long x0)]) rfl hx) ?_
  refine And.imp_right (fun hx => qc_lload_n (qc_at qkX8_doubleOf 0 rfl) rfl <| qc_bipush (qc_at qkX8_doubleOf 1 rfl) <| qc_sipush (qc_at qkX8_doubleOf 2 rfl) <| hx) ?_
  obtain ⟨r1, I1, L1, D1, R1, e1, h⟩ := qc_bd_of h
  have c1 := (tX8_decoded hn hR e1)
  refine qd_cSv (qc_at qkX8_doubleOf 3 rfl) ql_8_13 qfX8_decoded c1 rfl rfl (Nat.le_of_ble_eq_true rfl) (qc_rml (by decide) (by decide)) ⟨Nat.zero_le _, Nat.zero_le _⟩ ?_
  obtain ⟨rfl, rfl, rfl, rfl, rfl⟩ := qc_some5 h
  exact ⟨qc_fm.rf _, qc_dret (qc_at qkX8_doubleOf 4 rfl) rfl (Nat.le_refl _) (Nat.le_refl _) (qc_eq.rf _ _ _)⟩
def fX8_floatOf (w : qcW) (I : qTI) (L : qTL) (D : qTD) (R : qTR) (x0 : Int32) : qcO UInt64 :=
  (qc_bd (fX8_decoded w I L D R (Int32.toInt64 x0) (23 : Int32) (127 : Int32)) fun r1 I1 L1 D1 R1 => some (r1, I1, L1, D1, R1))
set_option maxRecDepth 100000 in
set_option maxHeartbeats 4000000 in
theorem tX8_floatOf {w : qcW} {I : qTI} {L : qTL} {D : qTD} {R : qTR} {x0 : Int32} {r : UInt64} {I' : qTI} {L' : qTL} {D' : qTD} {R' : qTR} (hn : qcNF ≤ w.1) (hR : qc_FR R) (h : fX8_floatOf w I L D R x0 = some (r, I', L', D', R')) : qc_fm qcSX (I, L, D, R) (I', L', D', R') ∧ qc_V (3) 0 0 qmX8_floatOf [.int x0] w (I, L, D, R) (qc_eq (some (.double r)) w (I', L', D', R')) := by
  unfold fX8_floatOf at h
  refine And.imp_right (fun hx => qc_V.of rfl rfl (Nat.le_of_ble_eq_true rfl) (lv := [(0, .int x0)]) rfl hx) ?_
  refine And.imp_right (fun hx => qc_iload_n (qc_at qkX8_floatOf 0 rfl) rfl <| qc_i2l (qc_at qkX8_floatOf 1 rfl) <| qc_bipush (qc_at qkX8_floatOf 2 rfl) <| qc_bipush (qc_at qkX8_floatOf 3 rfl) <| hx) ?_
  obtain ⟨r1, I1, L1, D1, R1, e1, h⟩ := qc_bd_of h
  have c1 := (tX8_decoded hn hR e1)
  refine qd_cSv (qc_at qkX8_floatOf 4 rfl) ql_8_13 qfX8_decoded c1 rfl rfl (Nat.le_of_ble_eq_true rfl) (qc_rml (by decide) (by decide)) ⟨Nat.zero_le _, Nat.zero_le _⟩ ?_
  obtain ⟨rfl, rfl, rfl, rfl, rfl⟩ := qc_some5 h
  exact ⟨qc_fm.rf _, qc_dret (qc_at qkX8_floatOf 5 rfl) rfl (Nat.le_refl _) (Nat.le_refl _) (qc_eq.rf _ _ _)⟩
def fX8_isEndless (w : qcW) (I : qTI) (L : qTL) (D : qTD) (R : qTR) (x0 : UInt64) : qcO Bool :=
  (if 0 < (Op.cmpValue (FP.dcmp x0 (9218868437227405311 : UInt64)) .l) then (some (true, I, L, D, R)) else (if 0 ≤ (Op.cmpValue (FP.dcmp x0 (18442240474082181119 : UInt64)) .g) then (some (false, I, L, D, R)) else (some (true, I, L, D, R))))
set_option maxRecDepth 100000 in
set_option maxHeartbeats 4000000 in
theorem tX8_isEndless {w : qcW} {I : qTI} {L : qTL} {D : qTD} {R : qTR} {x0 : UInt64} {r : Bool} {I' : qTI} {L' : qTL} {D' : qTD} {R' : qTR} (hn : qcNF ≤ w.1) (hR : qc_FR R) (h : fX8_isEndless w I L D R x0 = some (r, I', L', D', R')) : qc_fm qcSX (I, L, D, R) (I', L', D', R') ∧ qc_V (0) 0 0 qmX8_isEndless [.double x0] w (I, L, D, R) (qc_eq (some (.int (qc_b r))) w (I', L', D', R')) := by
  unfold fX8_isEndless at h
  refine And.imp_right (fun hx => qc_V.of rfl rfl (Nat.le_of_ble_eq_true rfl) (lv := [(0, .double x0)]) rfl hx) ?_
  refine And.imp_right (fun hx => qc_dload_n (qc_at qkX8_isEndless 0 rfl) rfl <| qc_ldc2d (qc_at qkX8_isEndless 1 rfl) <| qc_dcmp (qc_at qkX8_isEndless 2 rfl) <| hx) ?_
  refine qc_andC (qc_if_gt (qc_at qkX8_isEndless 3 rfl)) (fun u1 => ?_) (fun u1 => ?_)
  · replace h := qc_jp u1 h
    obtain ⟨rfl, rfl, rfl, rfl, rfl⟩ := qc_some5 h
    exact ⟨qc_fm.rf _, qc_iconst (qc_at qkX8_isEndless 8 rfl) <| qc_goto (qc_at qkX8_isEndless 9 rfl) <| qc_zret (qc_at qkX8_isEndless 11 rfl) rfl (Or.inr rfl) (Nat.le_refl _) (Nat.le_refl _) ⟨rfl, rfl, rfl⟩⟩
  · replace h := qc_jn u1 h
    refine And.imp_right (fun hx => qc_dload_n (qc_at qkX8_isEndless 4 rfl) rfl <| qc_ldc2d (qc_at qkX8_isEndless 5 rfl) <| qc_dcmp (qc_at qkX8_isEndless 6 rfl) <| hx) ?_
    refine qc_andC (qc_if_ge (qc_at qkX8_isEndless 7 rfl)) (fun u2 => ?_) (fun u2 => ?_)
    · replace h := qc_jp u2 h
      obtain ⟨rfl, rfl, rfl, rfl, rfl⟩ := qc_some5 h
      exact ⟨qc_fm.rf _, qc_iconst (qc_at qkX8_isEndless 10 rfl) <| qc_zret (qc_at qkX8_isEndless 11 rfl) rfl (Or.inl rfl) (Nat.le_refl _) (Nat.le_refl _) ⟨rfl, rfl, rfl⟩⟩
    · replace h := qc_jn u2 h
      obtain ⟨rfl, rfl, rfl, rfl, rfl⟩ := qc_some5 h
      exact ⟨qc_fm.rf _, qc_iconst (qc_at qkX8_isEndless 8 rfl) <| qc_goto (qc_at qkX8_isEndless 9 rfl) <| qc_zret (qc_at qkX8_isEndless 11 rfl) rfl (Or.inr rfl) (Nat.le_refl _) (Nat.le_refl _) ⟨rfl, rfl, rfl⟩⟩
def fX8_powerOf_b65 (w : qcW) (k9 : qTI × qTL × qTD × qTR × Int32 × UInt64 × Int32 → qcO Int32) (I : qTI) (L : qTL) (D : qTD) (R : qTR) (x2 : Int32) (x3 : UInt64) (x5 : Int32) : qcO Int32 :=
  (k9 (I, L, D, R, x2, x3, (x5 / (2 : Int32))))
set_option maxRecDepth 100000 in
set_option maxHeartbeats 4000000 in
theorem tX8_powerOf_b65 {w : qcW} {I : qTI} {L : qTL} {D : qTD} {R : qTR} {k9 : qTI × qTL × qTD × qTR × Int32 × UInt64 × Int32 → qcO Int32} {x2 : Int32} {x3 : UInt64} {x5 : Int32} {r : Int32} {I' : qTI} {L' : qTL} {D' : qTD} {R' : qTR} (hn : qcNF ≤ w.1) (hR : qc_FR R) (hk9 : ∀ {I : qTI} {L : qTL} {D : qTD} {R : qTR} {x2 : Int32} {x3 : UInt64} {x5 : Int32} {r : Int32} {I' : qTI} {L' : qTL} {D' : qTD} {R' : qTR}, qc_FR R → k9 (I, L, D, R, x2, x3, x5) = some (r, I', L', D', R') → qc_fm qcSX (I, L, D, R) (I', L', D', R') ∧ qc_X (qc_rm (1) 0 0) qmX8_powerOf (qc_QM 0 0 (qc_eq (some (.int r)) w (I', L', D', R'))) 0 0 w (9, [(2, .int x2), (3, .double x3), (5, .int x5)], [], I, L, D, R)) (h : fX8_powerOf_b65 w k9 I L D R x2 x3 x5 = some (r, I', L', D', R')) : qc_fm qcSX (I, L, D, R) (I', L', D', R') ∧ qc_X (qc_rm (1) 0 0) qmX8_powerOf (qc_QM 0 0 (qc_eq (some (.int r)) w (I', L', D', R'))) 0 0 w (65, [(2, .int x2), (3, .double x3), (5, .int x5)], [], I, L, D, R) := by
  unfold fX8_powerOf_b65 at h
  exact And.imp_right (fun hx => qc_iload (qc_at qkX8_powerOf 41 rfl) rfl <| qc_iconst (qc_at qkX8_powerOf 42 rfl) <| qc_idiv (qc_at qkX8_powerOf 43 rfl) (by decide) <| qc_istore (lv' := [(5, _), (2, _), (3, _)]) (qc_at qkX8_powerOf 44 rfl) rfl rfl <| qc_goto (qc_at qkX8_powerOf 45 rfl) <| qc_sub [1, 2, 0] rfl hx) (hk9 hR h)
def fX8_powerOf_b9 (w : qcW) (k9 : qTI × qTL × qTD × qTR × Int32 × UInt64 × Int32 → qcO Int32) (I : qTI) (L : qTL) (D : qTD) (R : qTR) (x2 : Int32) (x3 : UInt64) (x5 : Int32) : qcO Int32 :=
  (if x5 < (1 : Int32) then (some (x2, I, L, D, R)) else (qc_bd (fX8_twoTo w I L D R x5) fun r2 I2 L2 D2 R2 => qc_gd (qc_n64 (FP.ddiv x3 r2)) <| if (Op.cmpValue (FP.dcmp (FP.ddiv x3 r2) (4607182418800017408 : UInt64)) .l) < 0 then (qc_gd (qc_n64 (FP.dmul x3 r2)) <| if 0 ≤ (Op.cmpValue (FP.dcmp (FP.dmul x3 r2) (4611686018427387904 : UInt64)) .g) then (fX8_powerOf_b65 w k9 I2 L2 D2 R2 x2 x3 x5) else (qc_gd (qc_n64 (FP.dmul x3 r2)) <| fX8_powerOf_b65 w k9 I2 L2 D2 R2 (x2 - x5) (FP.dmul x3 r2) x5)) else (qc_gd (qc_n64 (FP.ddiv x3 r2)) <| fX8_powerOf_b65 w k9 I2 L2 D2 R2 (x2 + x5) (FP.ddiv x3 r2) x5)))
set_option maxRecDepth 100000 in
set_option maxHeartbeats 4000000 in
theorem tX8_powerOf_b9 {w : qcW} {I : qTI} {L : qTL} {D : qTD} {R : qTR} {k9 : qTI × qTL × qTD × qTR × Int32 × UInt64 × Int32 → qcO Int32} {x2 : Int32} {x3 : UInt64} {x5 : Int32} {r : Int32} {I' : qTI} {L' : qTL} {D' : qTD} {R' : qTR} (hn : qcNF ≤ w.1) (hR : qc_FR R) (hk9 : ∀ {I : qTI} {L : qTL} {D : qTD} {R : qTR} {x2 : Int32} {x3 : UInt64} {x5 : Int32} {r : Int32} {I' : qTI} {L' : qTL} {D' : qTD} {R' : qTR}, qc_FR R → k9 (I, L, D, R, x2, x3, x5) = some (r, I', L', D', R') → qc_fm qcSX (I, L, D, R) (I', L', D', R') ∧ qc_X (qc_rm (1) 0 0) qmX8_powerOf (qc_QM 0 0 (qc_eq (some (.int r)) w (I', L', D', R'))) 0 0 w (9, [(2, .int x2), (3, .double x3), (5, .int x5)], [], I, L, D, R)) (h : fX8_powerOf_b9 w k9 I L D R x2 x3 x5 = some (r, I', L', D', R')) : qc_fm qcSX (I, L, D, R) (I', L', D', R') ∧ qc_X (qc_rm (1) 0 0) qmX8_powerOf (qc_QM 0 0 (qc_eq (some (.int r)) w (I', L', D', R'))) 0 0 w (9, [(2, .int x2), (3, .double x3), (5, .int x5)], [], I, L, D, R) := by
  unfold fX8_powerOf_b9 at h
  refine And.imp_right (fun hx => qc_iload (qc_at qkX8_powerOf 6 rfl) rfl <| qc_iconst (qc_at qkX8_powerOf 7 rfl) <| hx) ?_
  refine qc_andC (qc_icmp_lt (qc_at qkX8_powerOf 8 rfl)) (fun u1 => ?_) (fun u1 => ?_)
  · replace h := qc_jp u1 h
    obtain ⟨rfl, rfl, rfl, rfl, rfl⟩ := qc_some5 h
    exact ⟨qc_fm.rf _, qc_iload_n (qc_at qkX8_powerOf 46 rfl) rfl <| qc_iret (qc_at qkX8_powerOf 47 rfl) rfl (Nat.le_refl _) (Nat.le_refl _) (qc_eq.rf _ _ _)⟩
  · replace h := qc_jn u1 h
    refine And.imp_right (fun hx => qc_iload (qc_at qkX8_powerOf 9 rfl) rfl <| hx) ?_
    obtain ⟨r2, I2, L2, D2, R2, e2, h⟩ := qc_bd_of h
    have c2 := (tX8_twoTo hn hR e2)
    refine qd_cSv (qc_at qkX8_powerOf 10 rfl) ql_8_53 qfX8_twoTo c2 rfl rfl (Nat.le_of_ble_eq_true rfl) (qc_rml (by decide) (by decide)) ⟨Nat.zero_le _, Nat.zero_le _⟩ ?_
    refine And.imp_right (fun hx => qc_dstore (lv' := [(6, _), (2, _), (3, _), (5, _)]) (qc_at qkX8_powerOf 11 rfl) rfl rfl <| qc_dload_n (qc_at qkX8_powerOf 12 rfl) rfl <| qc_dload (qc_at qkX8_powerOf 13 rfl) rfl <| hx) ?_
    obtain ⟨g3, h⟩ := qc_gd_of h
    replace g3 := qc_n64_of g3
    refine And.imp_right (fun hx => qc_ddiv (qc_at qkX8_powerOf 14 rfl) g3 <| qc_dconst (qc_at qkX8_powerOf 15 rfl) <| qc_dcmp (qc_at qkX8_powerOf 16 rfl) <| hx) ?_
    refine qc_andC (qc_if_lt (qc_at qkX8_powerOf 17 rfl)) (fun u4 => ?_) (fun u4 => ?_)
    · replace h := qc_jp u4 h
      refine And.imp_right (fun hx => qc_dload_n (qc_at qkX8_powerOf 27 rfl) rfl <| qc_dload (qc_at qkX8_powerOf 28 rfl) rfl <| hx) ?_
      obtain ⟨g5, h⟩ := qc_gd_of h
      replace g5 := qc_n64_of g5
      refine And.imp_right (fun hx => qc_dmul (qc_at qkX8_powerOf 29 rfl) g5 <| qc_ldc2d (qc_at qkX8_powerOf 30 rfl) <| qc_dcmp (qc_at qkX8_powerOf 31 rfl) <| hx) ?_
      refine qc_andC (qc_if_ge (qc_at qkX8_powerOf 32 rfl)) (fun u6 => ?_) (fun u6 => ?_)
      · replace h := qc_jp u6 h
        exact And.imp_right (fun hx => qc_sub [1, 2, 3] rfl hx) (tX8_powerOf_b65 hn (c2.1.1 hR) hk9 h)
      · replace h := qc_jn u6 h
        refine And.imp_right (fun hx => qc_dload_n (qc_at qkX8_powerOf 33 rfl) rfl <| qc_dload (qc_at qkX8_powerOf 34 rfl) rfl <| hx) ?_
        obtain ⟨g7, h⟩ := qc_gd_of h
        replace g7 := qc_n64_of g7
        exact And.imp_right (fun hx => qc_dmul (qc_at qkX8_powerOf 35 rfl) g7 <| qc_dstore_n (lv' := [(3, _), (6, _), (2, _), (5, _)]) (qc_at qkX8_powerOf 36 rfl) rfl rfl <| qc_iload_n (qc_at qkX8_powerOf 37 rfl) rfl <| qc_iload (qc_at qkX8_powerOf 38 rfl) rfl <| qc_isub (qc_at qkX8_powerOf 39 rfl) <| qc_istore_n (lv' := [(2, _), (3, _), (6, _), (5, _)]) (qc_at qkX8_powerOf 40 rfl) rfl rfl <| qc_sub [0, 1, 3] rfl hx) (tX8_powerOf_b65 hn (c2.1.1 hR) hk9 h)
    · replace h := qc_jn u4 h
      refine And.imp_right (fun hx => qc_dload_n (qc_at qkX8_powerOf 18 rfl) rfl <| qc_dload (qc_at qkX8_powerOf 19 rfl) rfl <| hx) ?_
      obtain ⟨g8, h⟩ := qc_gd_of h
      replace g8 := qc_n64_of g8
      exact And.imp_right (fun hx => qc_ddiv (qc_at qkX8_powerOf 20 rfl) g8 <| qc_dstore_n (lv' := [(3, _), (6, _), (2, _), (5, _)]) (qc_at qkX8_powerOf 21 rfl) rfl rfl <| qc_iload_n (qc_at qkX8_powerOf 22 rfl) rfl <| qc_iload (qc_at qkX8_powerOf 23 rfl) rfl <| qc_iadd (qc_at qkX8_powerOf 24 rfl) <| qc_istore_n (lv' := [(2, _), (3, _), (6, _), (5, _)]) (qc_at qkX8_powerOf 25 rfl) rfl rfl <| qc_goto (qc_at qkX8_powerOf 26 rfl) <| qc_sub [0, 1, 3] rfl hx) (tX8_powerOf_b65 hn (c2.1.1 hR) hk9 h)
def fX8_powerOf_l9 (w : qcW) : Nat → qTI × qTL × qTD × qTR × Int32 × UInt64 × Int32 → qcO Int32 := qc_lp (fun k q => match q with | (I, L, D, R, x2, x3, x5) => fX8_powerOf_b9 w k I L D R x2 x3 x5)
set_option maxRecDepth 100000 in
set_option maxHeartbeats 4000000 in
theorem tX8_powerOf_l9 {w : qcW} (hn : qcNF ≤ w.1) : ∀ (n : Nat) {r : Int32} {I' : qTI} {L' : qTL} {D' : qTD} {R' : qTR} {I : qTI} {L : qTL} {D : qTD} {R : qTR} {x2 : Int32} {x3 : UInt64} {x5 : Int32} (hR : qc_FR R) (h : fX8_powerOf_l9 w n (I, L, D, R, x2, x3, x5) = some (r, I', L', D', R')), qc_fm qcSX (I, L, D, R) (I', L', D', R') ∧ qc_X (qc_rm (1) 0 0) qmX8_powerOf (qc_QM 0 0 (qc_eq (some (.int r)) w (I', L', D', R'))) 0 0 w (9, [(2, .int x2), (3, .double x3), (5, .int x5)], [], I, L, D, R) := by
  intro n
  induction n with
  | zero => intro _ _ _ _ _ _ _ _ _ _ _ _ _ h; cases h
  | succ n ih => intro _ _ _ _ _ _ _ _ _ _ _ _ hR h; exact tX8_powerOf_b9 hn hR (k9 := fX8_powerOf_l9 w n) (fun hR h => ih hR h) h
def fX8_powerOf (w : qcW) (I : qTI) (L : qTL) (D : qTD) (R : qTR) (x0 : UInt64) : qcO Int32 :=
  (fX8_powerOf_l9 w qcF (I, L, D, R, (0 : Int32), x0, (512 : Int32)))
set_option maxRecDepth 100000 in
set_option maxHeartbeats 4000000 in
theorem tX8_powerOf {w : qcW} {I : qTI} {L : qTL} {D : qTD} {R : qTR} {x0 : UInt64} {r : Int32} {I' : qTI} {L' : qTL} {D' : qTD} {R' : qTR} (hn : qcNF ≤ w.1) (hR : qc_FR R) (h : fX8_powerOf w I L D R x0 = some (r, I', L', D', R')) : qc_fm qcSX (I, L, D, R) (I', L', D', R') ∧ qc_V (1) 0 0 qmX8_powerOf [.double x0] w (I, L, D, R) (qc_eq (some (.int r)) w (I', L', D', R')) := by
  unfold fX8_powerOf at h
  refine And.imp_right (fun hx => qc_V.of rfl rfl (Nat.le_of_ble_eq_true rfl) (lv := [(0, .double x0)]) rfl hx) ?_
  exact And.imp_right (fun hx => qc_iconst (qc_at qkX8_powerOf 0 rfl) <| qc_istore_n (lv' := [(2, _), (0, _)]) (qc_at qkX8_powerOf 1 rfl) rfl rfl <| qc_dload_n (qc_at qkX8_powerOf 2 rfl) rfl <| qc_dstore_n (lv' := [(3, _), (2, _), (0, _)]) (qc_at qkX8_powerOf 3 rfl) rfl rfl <| qc_sipush (qc_at qkX8_powerOf 4 rfl) <| qc_istore (lv' := [(5, _), (3, _), (2, _), (0, _)]) (qc_at qkX8_powerOf 5 rfl) rfl rfl <| qc_sub [2, 1, 0] rfl hx) (tX8_powerOf_l9 hn qcF hR h)
def fX8_encoded (w : qcW) (I : qTI) (L : qTL) (D : qTD) (R : qTR) (x0 : UInt64) (x2 : Int32) (x3 : Int32) : qcO Int64 :=
  (if (Op.cmpValue (FP.dcmp x0 (0 : UInt64)) .l) = 0 then (some ((0 : Int64), I, L, D, R)) else (qc_bd (fX8_isEndless w I L D R x0) fun r2 I2 L2 D2 R2 => if r2 = true then (some (((((2 : Int64) * (Int32.toInt64 x3)) + (1 : Int64)) <<< (Int32.toInt64 x2 &&& 63)), I2, L2, D2, R2)) else (qc_bd (fX8_powerOf w I2 L2 D2 R2 x0) fun r4 I4 L4 D4 R4 => qc_bd (fJ9_max_7cf53 w I4 L4 D4 R4 r4 ((1 : Int32) - x3)) fun r5 I5 L5 D5 R5 => qc_bd (fX8_scaled w I5 L5 D5 R5 x0 (x2 - r5)) fun r6 I6 L6 D6 R6 => some ((((Int32.toInt64 ((r5 + x3) - (1 : Int32))) <<< (Int32.toInt64 x2 &&& 63)) + (FP.d2l r6)), I6, L6, D6, R6))))
set_option maxRecDepth 100000 in
set_option maxHeartbeats 4000000 in
theorem tX8_encoded {w : qcW} {I : qTI} {L : qTL} {D : qTD} {R : qTR} {x0 : UInt64} {x2 : Int32} {x3 : Int32} {r : Int64} {I' : qTI} {L' : qTL} {D' : qTD} {R' : qTR} (hn : qcNF ≤ w.1) (hR : qc_FR R) (h : fX8_encoded w I L D R x0 x2 x3 = some (r, I', L', D', R')) : qc_fm qcSX (I, L, D, R) (I', L', D', R') ∧ qc_V (2) 0 0 qmX8_encoded [.double x0, .int x2, .int x3] w (I, L, D, R) (qc_eq (some (.long r)) w (I', L', D', R')) := by
  unfold fX8_encoded at h
  refine And.imp_right (fun hx => qc_V.of rfl rfl (Nat.le_of_ble_eq_true rfl) (lv := [(0, .double x0), (2, .int x2), (3, .int x3)]) rfl hx) ?_
  refine And.imp_right (fun hx => qc_dload_n (qc_at qkX8_encoded 0 rfl) rfl <| qc_dconst (qc_at qkX8_encoded 1 rfl) <| qc_dcmp (qc_at qkX8_encoded 2 rfl) <| hx) ?_
  refine qc_andN (qc_if_ne (qc_at qkX8_encoded 3 rfl)) (fun u1 => ?_) (fun u1 => ?_)
  · replace h := qc_jn u1 h
    refine And.imp_right (fun hx => qc_dload_n (qc_at qkX8_encoded 6 rfl) rfl <| hx) ?_
    obtain ⟨r2, I2, L2, D2, R2, e2, h⟩ := qc_bd_of h
    have c2 := (tX8_isEndless hn hR e2)
    refine qd_cSv (qc_at qkX8_encoded 7 rfl) ql_8_38 qfX8_isEndless c2 rfl rfl (Nat.le_of_ble_eq_true rfl) (qc_rml (by decide) (by decide)) ⟨Nat.zero_le _, Nat.zero_le _⟩ ?_
    refine qc_andB (qc_ifB_eq (qc_at qkX8_encoded 8 rfl)) (fun u3 => ?_) (fun u3 => ?_)
    · replace h := qc_jf u3 h
      refine And.imp_right (fun hx => qc_dload_n (qc_at qkX8_encoded 18 rfl) rfl <| hx) ?_
      obtain ⟨r4, I4, L4, D4, R4, e4, h⟩ := qc_bd_of h
      have c4 := (tX8_powerOf hn (c2.1.1 hR) e4)
      refine qd_cSv (qc_at qkX8_encoded 19 rfl) ql_8_43 qfX8_powerOf c4 rfl rfl (Nat.le_of_ble_eq_true rfl) (qc_rml (by decide) (by decide)) ⟨Nat.zero_le _, Nat.zero_le _⟩ ?_
      refine And.imp_right (fun hx => qc_iconst (qc_at qkX8_encoded 20 rfl) <| qc_iload_n (qc_at qkX8_encoded 21 rfl) rfl <| qc_isub (qc_at qkX8_encoded 22 rfl) <| hx) ?_
      obtain ⟨r5, I5, L5, D5, R5, e5, h⟩ := qc_bd_of h
      have c5 := (tJ9_max_7cf53 (sd := qcSX) hn (c4.1.1 (c2.1.1 hR)) e5)
      refine qd_cSv (qc_at qkX8_encoded 23 rfl) ql_8_47 qfJ9_max_7cf53 c5 rfl rfl (Nat.le_of_ble_eq_true rfl) (qc_rml (by decide) (by decide)) ⟨Nat.zero_le _, Nat.zero_le _⟩ ?_
      refine And.imp_right (fun hx => qc_istore (lv' := [(4, _), (0, _), (2, _), (3, _)]) (qc_at qkX8_encoded 24 rfl) rfl rfl <| qc_dload_n (qc_at qkX8_encoded 25 rfl) rfl <| qc_iload_n (qc_at qkX8_encoded 26 rfl) rfl <| qc_iload (qc_at qkX8_encoded 27 rfl) rfl <| qc_isub (qc_at qkX8_encoded 28 rfl) <| hx) ?_
      obtain ⟨r6, I6, L6, D6, R6, e6, h⟩ := qc_bd_of h
      have c6 := (tX8_scaled hn (c5.1.1 (c4.1.1 (c2.1.1 hR))) e6)
      refine qd_cSv (qc_at qkX8_encoded 29 rfl) ql_8_34 qfX8_scaled c6 rfl rfl (Nat.le_of_ble_eq_true rfl) (qc_rml (by decide) (by decide)) ⟨Nat.zero_le _, Nat.zero_le _⟩ ?_
      obtain ⟨rfl, rfl, rfl, rfl, rfl⟩ := qc_some5 h
      exact ⟨qc_fm.rf _, qc_d2l (qc_at qkX8_encoded 30 rfl) <| qc_lstore (lv' := [(5, _), (4, _), (0, _), (2, _), (3, _)]) (qc_at qkX8_encoded 31 rfl) rfl rfl <| qc_iload (qc_at qkX8_encoded 32 rfl) rfl <| qc_iload_n (qc_at qkX8_encoded 33 rfl) rfl <| qc_iadd (qc_at qkX8_encoded 34 rfl) <| qc_iconst (qc_at qkX8_encoded 35 rfl) <| qc_isub (qc_at qkX8_encoded 36 rfl) <| qc_i2l (qc_at qkX8_encoded 37 rfl) <| qc_iload_n (qc_at qkX8_encoded 38 rfl) rfl <| qc_lshl (qc_at qkX8_encoded 39 rfl) <| qc_lload (qc_at qkX8_encoded 40 rfl) rfl <| qc_ladd (qc_at qkX8_encoded 41 rfl) <| qc_lret (qc_at qkX8_encoded 42 rfl) rfl (Nat.le_refl _) (Nat.le_refl _) (qc_eq.rf _ _ _)⟩
    · replace h := qc_jt u3 h
      obtain ⟨rfl, rfl, rfl, rfl, rfl⟩ := qc_some5 h
      exact ⟨qc_fm.rf _, qc_ldc2l (qc_at qkX8_encoded 9 rfl) <| qc_iload_n (qc_at qkX8_encoded 10 rfl) rfl <| qc_i2l (qc_at qkX8_encoded 11 rfl) <| qc_lmul (qc_at qkX8_encoded 12 rfl) <| qc_lconst (qc_at qkX8_encoded 13 rfl) <| qc_ladd (qc_at qkX8_encoded 14 rfl) <| qc_iload_n (qc_at qkX8_encoded 15 rfl) rfl <| qc_lshl (qc_at qkX8_encoded 16 rfl) <| qc_lret (qc_at qkX8_encoded 17 rfl) rfl (Nat.le_refl _) (Nat.le_refl _) (qc_eq.rf _ _ _)⟩
  · replace h := qc_jp u1 h
    obtain ⟨rfl, rfl, rfl, rfl, rfl⟩ := qc_some5 h
    exact ⟨qc_fm.rf _, qc_lconst (qc_at qkX8_encoded 4 rfl) <| qc_lret (qc_at qkX8_encoded 5 rfl) rfl (Nat.le_refl _) (Nat.le_refl _) (qc_eq.rf _ _ _)⟩
def fX8_isMinus (w : qcW) (I : qTI) (L : qTL) (D : qTD) (R : qTR) (x0 : UInt64) : qcO Bool :=
  (if (Op.cmpValue (FP.dcmp x0 (0 : UInt64)) .g) < 0 then (some (true, I, L, D, R)) else (if (Op.cmpValue (FP.dcmp x0 (0 : UInt64)) .l) = 0 then (qc_gd (qc_n64 (FP.ddiv (4607182418800017408 : UInt64) x0)) <| if 0 ≤ (Op.cmpValue (FP.dcmp (FP.ddiv (4607182418800017408 : UInt64) x0) (0 : UInt64)) .g) then (some (false, I, L, D, R)) else (some (true, I, L, D, R))) else (some (false, I, L, D, R))))
set_option maxRecDepth 100000 in
set_option maxHeartbeats 4000000 in
theorem tX8_isMinus {w : qcW} {I : qTI} {L : qTL} {D : qTD} {R : qTR} {x0 : UInt64} {r : Bool} {I' : qTI} {L' : qTL} {D' : qTD} {R' : qTR} (hn : qcNF ≤ w.1) (hR : qc_FR R) (h : fX8_isMinus w I L D R x0 = some (r, I', L', D', R')) : qc_fm qcSX (I, L, D, R) (I', L', D', R') ∧ qc_V (0) 0 0 qmX8_isMinus [.double x0] w (I, L, D, R) (qc_eq (some (.int (qc_b r))) w (I', L', D', R')) := by
  unfold fX8_isMinus at h
  refine And.imp_right (fun hx => qc_V.of rfl rfl (Nat.le_of_ble_eq_true rfl) (lv := [(0, .double x0)]) rfl hx) ?_
  refine And.imp_right (fun hx => qc_dload_n (qc_at qkX8_isMinus 0 rfl) rfl <| qc_dconst (qc_at qkX8_isMinus 1 rfl) <| qc_dcmp (qc_at qkX8_isMinus 2 rfl) <| hx) ?_
  refine qc_andC (qc_if_lt (qc_at qkX8_isMinus 3 rfl)) (fun u1 => ?_) (fun u1 => ?_)
  · replace h := qc_jp u1 h
    obtain ⟨rfl, rfl, rfl, rfl, rfl⟩ := qc_some5 h
    exact ⟨qc_fm.rf _, qc_iconst (qc_at qkX8_isMinus 14 rfl) <| qc_goto (qc_at qkX8_isMinus 15 rfl) <| qc_zret (qc_at qkX8_isMinus 17 rfl) rfl (Or.inr rfl) (Nat.le_refl _) (Nat.le_refl _) ⟨rfl, rfl, rfl⟩⟩
  · replace h := qc_jn u1 h
    refine And.imp_right (fun hx => qc_dload_n (qc_at qkX8_isMinus 4 rfl) rfl <| qc_dconst (qc_at qkX8_isMinus 5 rfl) <| qc_dcmp (qc_at qkX8_isMinus 6 rfl) <| hx) ?_
    refine qc_andN (qc_if_ne (qc_at qkX8_isMinus 7 rfl)) (fun u2 => ?_) (fun u2 => ?_)
    · replace h := qc_jn u2 h
      obtain ⟨rfl, rfl, rfl, rfl, rfl⟩ := qc_some5 h
      exact ⟨qc_fm.rf _, qc_iconst (qc_at qkX8_isMinus 16 rfl) <| qc_zret (qc_at qkX8_isMinus 17 rfl) rfl (Or.inl rfl) (Nat.le_refl _) (Nat.le_refl _) ⟨rfl, rfl, rfl⟩⟩
    · replace h := qc_jp u2 h
      refine And.imp_right (fun hx => qc_dconst (qc_at qkX8_isMinus 8 rfl) <| qc_dload_n (qc_at qkX8_isMinus 9 rfl) rfl <| hx) ?_
      obtain ⟨g3, h⟩ := qc_gd_of h
      replace g3 := qc_n64_of g3
      refine And.imp_right (fun hx => qc_ddiv (qc_at qkX8_isMinus 10 rfl) g3 <| qc_dconst (qc_at qkX8_isMinus 11 rfl) <| qc_dcmp (qc_at qkX8_isMinus 12 rfl) <| hx) ?_
      refine qc_andC (qc_if_ge (qc_at qkX8_isMinus 13 rfl)) (fun u4 => ?_) (fun u4 => ?_)
      · replace h := qc_jp u4 h
        obtain ⟨rfl, rfl, rfl, rfl, rfl⟩ := qc_some5 h
        exact ⟨qc_fm.rf _, qc_iconst (qc_at qkX8_isMinus 16 rfl) <| qc_zret (qc_at qkX8_isMinus 17 rfl) rfl (Or.inl rfl) (Nat.le_refl _) (Nat.le_refl _) ⟨rfl, rfl, rfl⟩⟩
      · replace h := qc_jn u4 h
        obtain ⟨rfl, rfl, rfl, rfl, rfl⟩ := qc_some5 h
        exact ⟨qc_fm.rf _, qc_iconst (qc_at qkX8_isMinus 14 rfl) <| qc_goto (qc_at qkX8_isMinus 15 rfl) <| qc_zret (qc_at qkX8_isMinus 17 rfl) rfl (Or.inr rfl) (Nat.le_refl _) (Nat.le_refl _) ⟨rfl, rfl, rfl⟩⟩
def fX8_magnitude (w : qcW) (I : qTI) (L : qTL) (D : qTD) (R : qTR) (x0 : UInt64) : qcO UInt64 :=
  (qc_bd (fX8_isMinus w I L D R x0) fun r1 I1 L1 D1 R1 => if r1 = true then (some ((FP.dneg x0), I1, L1, D1, R1)) else (some (x0, I1, L1, D1, R1)))
set_option maxRecDepth 100000 in
set_option maxHeartbeats 4000000 in
theorem tX8_magnitude {w : qcW} {I : qTI} {L : qTL} {D : qTD} {R : qTR} {x0 : UInt64} {r : UInt64} {I' : qTI} {L' : qTL} {D' : qTD} {R' : qTR} (hn : qcNF ≤ w.1) (hR : qc_FR R) (h : fX8_magnitude w I L D R x0 = some (r, I', L', D', R')) : qc_fm qcSX (I, L, D, R) (I', L', D', R') ∧ qc_V (1) 0 0 qmX8_magnitude [.double x0] w (I, L, D, R) (qc_eq (some (.double r)) w (I', L', D', R')) := by
  unfold fX8_magnitude at h
  refine And.imp_right (fun hx => qc_V.of rfl rfl (Nat.le_of_ble_eq_true rfl) (lv := [(0, .double x0)]) rfl hx) ?_
  refine And.imp_right (fun hx => qc_dload_n (qc_at qkX8_magnitude 0 rfl) rfl <| hx) ?_
  obtain ⟨r1, I1, L1, D1, R1, e1, h⟩ := qc_bd_of h
  have c1 := (tX8_isMinus hn hR e1)
  refine qd_cSv (qc_at qkX8_magnitude 1 rfl) ql_8_25 qfX8_isMinus c1 rfl rfl (Nat.le_of_ble_eq_true rfl) (qc_rml (by decide) (by decide)) ⟨Nat.zero_le _, Nat.zero_le _⟩ ?_
  refine qc_andB (qc_ifB_eq (qc_at qkX8_magnitude 2 rfl)) (fun u2 => ?_) (fun u2 => ?_)
  · replace h := qc_jf u2 h
    obtain ⟨rfl, rfl, rfl, rfl, rfl⟩ := qc_some5 h
    exact ⟨qc_fm.rf _, qc_dload_n (qc_at qkX8_magnitude 6 rfl) rfl <| qc_dret (qc_at qkX8_magnitude 7 rfl) rfl (Nat.le_refl _) (Nat.le_refl _) (qc_eq.rf _ _ _)⟩
  · replace h := qc_jt u2 h
    obtain ⟨rfl, rfl, rfl, rfl, rfl⟩ := qc_some5 h
    exact ⟨qc_fm.rf _, qc_dload_n (qc_at qkX8_magnitude 3 rfl) rfl <| qc_dneg (qc_at qkX8_magnitude 4 rfl) <| qc_goto (qc_at qkX8_magnitude 5 rfl) <| qc_dret (qc_at qkX8_magnitude 7 rfl) rfl (Nat.le_refl _) (Nat.le_refl _) (qc_eq.rf _ _ _)⟩
def fX8_bitsOfDouble (w : qcW) (I : qTI) (L : qTL) (D : qTD) (R : qTR) (x0 : UInt64) : qcO Int64 :=
  (qc_bd (fX8_magnitude w I L D R x0) fun r1 I1 L1 D1 R1 => qc_bd (fX8_encoded w I1 L1 D1 R1 r1 (52 : Int32) (1023 : Int32)) fun r2 I2 L2 D2 R2 => qc_bd (fX8_isMinus w I2 L2 D2 R2 x0) fun r3 I3 L3 D3 R3 => if r3 = true then (some ((r2 ||| (-9223372036854775808 : Int64)), I3, L3, D3, R3)) else (some (r2, I3, L3, D3, R3)))
set_option maxRecDepth 100000 in
set_option maxHeartbeats 4000000 in
theorem tX8_bitsOfDouble {w : qcW} {I : qTI} {L : qTL} {D : qTD} {R : qTR} {x0 : UInt64} {r : Int64} {I' : qTI} {L' : qTL} {D' : qTD} {R' : qTR} (hn : qcNF ≤ w.1) (hR : qc_FR R) (h : fX8_bitsOfDouble w I L D R x0 = some (r, I', L', D', R')) : qc_fm qcSX (I, L, D, R) (I', L', D', R') ∧ qc_V (3) 0 0 qmX8_bitsOfDouble [.double x0] w (I, L, D, R) (qc_eq (some (.long r)) w (I', L', D', R')) := by
  unfold fX8_bitsOfDouble at h
  refine And.imp_right (fun hx => qc_V.of rfl rfl (Nat.le_of_ble_eq_true rfl) (lv := [(0, .double x0)]) rfl hx) ?_
  refine And.imp_right (fun hx => qc_dload_n (qc_at qkX8_bitsOfDouble 0 rfl) rfl <| hx) ?_
  obtain ⟨r1, I1, L1, D1, R1, e1, h⟩ := qc_bd_of h
  have c1 := (tX8_magnitude hn hR e1)
  refine qd_cSv (qc_at qkX8_bitsOfDouble 1 rfl) ql_8_17 qfX8_magnitude c1 rfl rfl (Nat.le_of_ble_eq_true rfl) (qc_rml (by decide) (by decide)) ⟨Nat.zero_le _, Nat.zero_le _⟩ ?_
  refine And.imp_right (fun hx => qc_bipush (qc_at qkX8_bitsOfDouble 2 rfl) <| qc_sipush (qc_at qkX8_bitsOfDouble 3 rfl) <| hx) ?_
  obtain ⟨r2, I2, L2, D2, R2, e2, h⟩ := qc_bd_of h
  have c2 := (tX8_encoded hn (c1.1.1 hR) e2)
  refine qd_cSv (qc_at qkX8_bitsOfDouble 4 rfl) ql_8_21 qfX8_encoded c2 rfl rfl (Nat.le_of_ble_eq_true rfl) (qc_rml (by decide) (by decide)) ⟨Nat.zero_le _, Nat.zero_le _⟩ ?_
  refine And.imp_right (fun hx => qc_lstore_n (lv' := [(2, _), (0, _)]) (qc_at qkX8_bitsOfDouble 5 rfl) rfl rfl <| qc_dload_n (qc_at qkX8_bitsOfDouble 6 rfl) rfl <| hx) ?_
  obtain ⟨r3, I3, L3, D3, R3, e3, h⟩ := qc_bd_of h
  have c3 := (tX8_isMinus hn (c2.1.1 (c1.1.1 hR)) e3)
  refine qd_cSv (qc_at qkX8_bitsOfDouble 7 rfl) ql_8_25 qfX8_isMinus c3 rfl rfl (Nat.le_of_ble_eq_true rfl) (qc_rml (by decide) (by decide)) ⟨Nat.zero_le _, Nat.zero_le _⟩ ?_
  refine qc_andB (qc_ifB_eq (qc_at qkX8_bitsOfDouble 8 rfl)) (fun u4 => ?_) (fun u4 => ?_)
  · replace h := qc_jf u4 h
    obtain ⟨rfl, rfl, rfl, rfl, rfl⟩ := qc_some5 h
    exact ⟨qc_fm.rf _, qc_lload_n (qc_at qkX8_bitsOfDouble 13 rfl) rfl <| qc_lret (qc_at qkX8_bitsOfDouble 14 rfl) rfl (Nat.le_refl _) (Nat.le_refl _) (qc_eq.rf _ _ _)⟩
  · replace h := qc_jt u4 h
    obtain ⟨rfl, rfl, rfl, rfl, rfl⟩ := qc_some5 h
    exact ⟨qc_fm.rf _, qc_lload_n (qc_at qkX8_bitsOfDouble 9 rfl) rfl <| qc_ldc2l (qc_at qkX8_bitsOfDouble 10 rfl) <| qc_lor (qc_at qkX8_bitsOfDouble 11 rfl) <| qc_goto (qc_at qkX8_bitsOfDouble 12 rfl) <| qc_lret (qc_at qkX8_bitsOfDouble 14 rfl) rfl (Nat.le_refl _) (Nat.le_refl _) (qc_eq.rf _ _ _)⟩
def fX8_bitsOfFloat (w : qcW) (I : qTI) (L : qTL) (D : qTD) (R : qTR) (x0 : UInt64) : qcO Int64 :=
  (qc_bd (fX8_magnitude w I L D R x0) fun r1 I1 L1 D1 R1 => qc_bd (fX8_encoded w I1 L1 D1 R1 r1 (23 : Int32) (127 : Int32)) fun r2 I2 L2 D2 R2 => qc_bd (fX8_isMinus w I2 L2 D2 R2 x0) fun r3 I3 L3 D3 R3 => if r3 = true then (some ((Int32.toInt64 ((Int64.toInt32 r2) ||| (-2147483648 : Int32))), I3, L3, D3, R3)) else (some ((Int32.toInt64 (Int64.toInt32 r2)), I3, L3, D3, R3)))
set_option maxRecDepth 100000 in
set_option maxHeartbeats 4000000 in
theorem tX8_bitsOfFloat {w : qcW} {I : qTI} {L : qTL} {D : qTD} {R : qTR} {x0 : UInt64} {r : Int64} {I' : qTI} {L' : qTL} {D' : qTD} {R' : qTR} (hn : qcNF ≤ w.1) (hR : qc_FR R) (h : fX8_bitsOfFloat w I L D R x0 = some (r, I', L', D', R')) : qc_fm qcSX (I, L, D, R) (I', L', D', R') ∧ qc_V (3) 0 0 qmX8_bitsOfFloat [.double x0] w (I, L, D, R) (qc_eq (some (.long r)) w (I', L', D', R')) := by
  unfold fX8_bitsOfFloat at h
  refine And.imp_right (fun hx => qc_V.of rfl rfl (Nat.le_of_ble_eq_true rfl) (lv := [(0, .double x0)]) rfl hx) ?_
  refine And.imp_right (fun hx => qc_dload_n (qc_at qkX8_bitsOfFloat 0 rfl) rfl <| hx) ?_
  obtain ⟨r1, I1, L1, D1, R1, e1, h⟩ := qc_bd_of h
  have c1 := (tX8_magnitude hn hR e1)
  refine qd_cSv (qc_at qkX8_bitsOfFloat 1 rfl) ql_8_17 qfX8_magnitude c1 rfl rfl (Nat.le_of_ble_eq_true rfl) (qc_rml (by decide) (by decide)) ⟨Nat.zero_le _, Nat.zero_le _⟩ ?_
  refine And.imp_right (fun hx => qc_bipush (qc_at qkX8_bitsOfFloat 2 rfl) <| qc_bipush (qc_at qkX8_bitsOfFloat 3 rfl) <| hx) ?_
  obtain ⟨r2, I2, L2, D2, R2, e2, h⟩ := qc_bd_of h
  have c2 := (tX8_encoded hn (c1.1.1 hR) e2)
  refine qd_cSv (qc_at qkX8_bitsOfFloat 4 rfl) ql_8_21 qfX8_encoded c2 rfl rfl (Nat.le_of_ble_eq_true rfl) (qc_rml (by decide) (by decide)) ⟨Nat.zero_le _, Nat.zero_le _⟩ ?_
  refine And.imp_right (fun hx => qc_l2i (qc_at qkX8_bitsOfFloat 5 rfl) <| qc_istore_n (lv' := [(2, _), (0, _)]) (qc_at qkX8_bitsOfFloat 6 rfl) rfl rfl <| qc_dload_n (qc_at qkX8_bitsOfFloat 7 rfl) rfl <| hx) ?_
  obtain ⟨r3, I3, L3, D3, R3, e3, h⟩ := qc_bd_of h
  have c3 := (tX8_isMinus hn (c2.1.1 (c1.1.1 hR)) e3)
  refine qd_cSv (qc_at qkX8_bitsOfFloat 8 rfl) ql_8_25 qfX8_isMinus c3 rfl rfl (Nat.le_of_ble_eq_true rfl) (qc_rml (by decide) (by decide)) ⟨Nat.zero_le _, Nat.zero_le _⟩ ?_
  refine qc_andB (qc_ifB_eq (qc_at qkX8_bitsOfFloat 9 rfl)) (fun u4 => ?_) (fun u4 => ?_)
  · replace h := qc_jf u4 h
    obtain ⟨rfl, rfl, rfl, rfl, rfl⟩ := qc_some5 h
    exact ⟨qc_fm.rf _, qc_iload_n (qc_at qkX8_bitsOfFloat 15 rfl) rfl <| qc_i2l (qc_at qkX8_bitsOfFloat 16 rfl) <| qc_lret (qc_at qkX8_bitsOfFloat 17 rfl) rfl (Nat.le_refl _) (Nat.le_refl _) (qc_eq.rf _ _ _)⟩
  · replace h := qc_jt u4 h
    obtain ⟨rfl, rfl, rfl, rfl, rfl⟩ := qc_some5 h
    exact ⟨qc_fm.rf _, qc_iload_n (qc_at qkX8_bitsOfFloat 10 rfl) rfl <| qc_ldc (qc_at qkX8_bitsOfFloat 11 rfl) <| qc_ior (qc_at qkX8_bitsOfFloat 12 rfl) <| qc_i2l (qc_at qkX8_bitsOfFloat 13 rfl) <| qc_goto (qc_at qkX8_bitsOfFloat 14 rfl) <| qc_lret (qc_at qkX8_bitsOfFloat 17 rfl) rfl (Nat.le_refl _) (Nat.le_refl _) (qc_eq.rf _ _ _)⟩
def fX8_isLost_b84 (w : qcW) (I : qTI) (L : qTL) (D : qTD) (R : qTR) (x1 : UInt64) (x3 : UInt64) : qcO Bool :=
  (if (Op.cmpValue (FP.dcmp x1 (0 : UInt64)) .l) = 0 then (qc_bd (fX8_isEndless w I L D R x3) fun r2 I2 L2 D2 R2 => if r2 = true then (some (true, I2, L2, D2, R2)) else (some (false, I2, L2, D2, R2))) else (some (false, I, L, D, R)))
set_option maxRecDepth 100000 in
set_option maxHeartbeats 4000000 in
theorem tX8_isLost_b84 {w : qcW} {I : qTI} {L : qTL} {D : qTD} {R : qTR} {x1 : UInt64} {x3 : UInt64} {r : Bool} {I' : qTI} {L' : qTL} {D' : qTD} {R' : qTR} (hn : qcNF ≤ w.1) (hR : qc_FR R) (h : fX8_isLost_b84 w I L D R x1 x3 = some (r, I', L', D', R')) : qc_fm qcSX (I, L, D, R) (I', L', D', R') ∧ qc_X (qc_rm (1) 0 0) qmX8_isLost (qc_QM 0 0 (qc_eq (some (.int (qc_b r))) w (I', L', D', R'))) 0 0 w (84, [(1, .double x1), (3, .double x3)], [], I, L, D, R) := by
  unfold fX8_isLost_b84 at h
  refine And.imp_right (fun hx => qc_dload_n (qc_at qkX8_isLost 32 rfl) rfl <| qc_dconst (qc_at qkX8_isLost 33 rfl) <| qc_dcmp (qc_at qkX8_isLost 34 rfl) <| hx) ?_
  refine qc_andN (qc_if_ne (qc_at qkX8_isLost 35 rfl)) (fun u1 => ?_) (fun u1 => ?_)
  · replace h := qc_jn u1 h
    obtain ⟨rfl, rfl, rfl, rfl, rfl⟩ := qc_some5 h
    exact ⟨qc_fm.rf _, qc_iconst (qc_at qkX8_isLost 41 rfl) <| qc_zret (qc_at qkX8_isLost 42 rfl) rfl (Or.inl rfl) (Nat.le_refl _) (Nat.le_refl _) ⟨rfl, rfl, rfl⟩⟩
  · replace h := qc_jp u1 h
    refine And.imp_right (fun hx => qc_dload_n (qc_at qkX8_isLost 36 rfl) rfl <| hx) ?_
    obtain ⟨r2, I2, L2, D2, R2, e2, h⟩ := qc_bd_of h
    have c2 := (tX8_isEndless hn hR e2)
    refine qd_cSv (qc_at qkX8_isLost 37 rfl) ql_8_38 qfX8_isEndless c2 rfl rfl (Nat.le_of_ble_eq_true rfl) (qc_rml (by decide) (by decide)) ⟨Nat.zero_le _, Nat.zero_le _⟩ ?_
    refine qc_andB (qc_ifB_eq (qc_at qkX8_isLost 38 rfl)) (fun u3 => ?_) (fun u3 => ?_)
    · replace h := qc_jf u3 h
      obtain ⟨rfl, rfl, rfl, rfl, rfl⟩ := qc_some5 h
      exact ⟨qc_fm.rf _, qc_iconst (qc_at qkX8_isLost 41 rfl) <| qc_zret (qc_at qkX8_isLost 42 rfl) rfl (Or.inl rfl) (Nat.le_refl _) (Nat.le_refl _) ⟨rfl, rfl, rfl⟩⟩
    · replace h := qc_jt u3 h
      obtain ⟨rfl, rfl, rfl, rfl, rfl⟩ := qc_some5 h
      exact ⟨qc_fm.rf _, qc_iconst (qc_at qkX8_isLost 39 rfl) <| qc_goto (qc_at qkX8_isLost 40 rfl) <| qc_zret (qc_at qkX8_isLost 42 rfl) rfl (Or.inr rfl) (Nat.le_refl _) (Nat.le_refl _) ⟨rfl, rfl, rfl⟩⟩
def fX8_isLost_b115 (w : qcW) (I : qTI) (L : qTL) (D : qTD) (R : qTR) (x1 : UInt64) (x3 : UInt64) : qcO Bool :=
  (qc_bd (fX8_isEndless w I L D R x1) fun r4 I4 L4 D4 R4 => if r4 = true then (qc_bd (fX8_isEndless w I4 L4 D4 R4 x3) fun r6 I6 L6 D6 R6 => if r6 = true then (some (true, I6, L6, D6, R6)) else (some (false, I6, L6, D6, R6))) else (some (false, I4, L4, D4, R4)))
set_option maxRecDepth 100000 in
set_option maxHeartbeats 4000000 in
theorem tX8_isLost_b115 {w : qcW} {I : qTI} {L : qTL} {D : qTD} {R : qTR} {x1 : UInt64} {x3 : UInt64} {r : Bool} {I' : qTI} {L' : qTL} {D' : qTD} {R' : qTR} (hn : qcNF ≤ w.1) (hR : qc_FR R) (h : fX8_isLost_b115 w I L D R x1 x3 = some (r, I', L', D', R')) : qc_fm qcSX (I, L, D, R) (I', L', D', R') ∧ qc_X (qc_rm (1) 0 0) qmX8_isLost (qc_QM 0 0 (qc_eq (some (.int (qc_b r))) w (I', L', D', R'))) 0 0 w (115, [(1, .double x1), (3, .double x3)], [], I, L, D, R) := by
  unfold fX8_isLost_b115 at h
  refine And.imp_right (fun hx => qc_dload_n (qc_at qkX8_isLost 51 rfl) rfl <| hx) ?_
  obtain ⟨r4, I4, L4, D4, R4, e4, h⟩ := qc_bd_of h
  have c4 := (tX8_isEndless hn hR e4)
  refine qd_cSv (qc_at qkX8_isLost 52 rfl) ql_8_38 qfX8_isEndless c4 rfl rfl (Nat.le_of_ble_eq_true rfl) (qc_rml (by decide) (by decide)) ⟨Nat.zero_le _, Nat.zero_le _⟩ ?_
  refine qc_andB (qc_ifB_eq (qc_at qkX8_isLost 53 rfl)) (fun u5 => ?_) (fun u5 => ?_)
  · replace h := qc_jf u5 h
    obtain ⟨rfl, rfl, rfl, rfl, rfl⟩ := qc_some5 h
    exact ⟨qc_fm.rf _, qc_iconst (qc_at qkX8_isLost 59 rfl) <| qc_zret (qc_at qkX8_isLost 60 rfl) rfl (Or.inl rfl) (Nat.le_refl _) (Nat.le_refl _) ⟨rfl, rfl, rfl⟩⟩
  · replace h := qc_jt u5 h
    refine And.imp_right (fun hx => qc_dload_n (qc_at qkX8_isLost 54 rfl) rfl <| hx) ?_
    obtain ⟨r6, I6, L6, D6, R6, e6, h⟩ := qc_bd_of h
    have c6 := (tX8_isEndless hn (c4.1.1 hR) e6)
    refine qd_cSv (qc_at qkX8_isLost 55 rfl) ql_8_38 qfX8_isEndless c6 rfl rfl (Nat.le_of_ble_eq_true rfl) (qc_rml (by decide) (by decide)) ⟨Nat.zero_le _, Nat.zero_le _⟩ ?_
    refine qc_andB (qc_ifB_eq (qc_at qkX8_isLost 56 rfl)) (fun u7 => ?_) (fun u7 => ?_)
    · replace h := qc_jf u7 h
      obtain ⟨rfl, rfl, rfl, rfl, rfl⟩ := qc_some5 h
      exact ⟨qc_fm.rf _, qc_iconst (qc_at qkX8_isLost 59 rfl) <| qc_zret (qc_at qkX8_isLost 60 rfl) rfl (Or.inl rfl) (Nat.le_refl _) (Nat.le_refl _) ⟨rfl, rfl, rfl⟩⟩
    · replace h := qc_jt u7 h
      obtain ⟨rfl, rfl, rfl, rfl, rfl⟩ := qc_some5 h
      exact ⟨qc_fm.rf _, qc_iconst (qc_at qkX8_isLost 57 rfl) <| qc_goto (qc_at qkX8_isLost 58 rfl) <| qc_zret (qc_at qkX8_isLost 60 rfl) rfl (Or.inr rfl) (Nat.le_refl _) (Nat.le_refl _) ⟨rfl, rfl, rfl⟩⟩
def fX8_isLost (w : qcW) (I : qTI) (L : qTL) (D : qTD) (R : qTR) (x0 : Int32) (x1 : UInt64) (x3 : UInt64) : qcO Bool :=
  (if x0 = 1 then (qc_bd (fX8_isEndless w I L D R x1) fun r9 I9 L9 D9 R9 => if r9 = true then (if (Op.cmpValue (FP.dcmp x3 (FP.dneg x1)) .l) = 0 then (some (true, I9, L9, D9, R9)) else (some (false, I9, L9, D9, R9))) else (some (false, I9, L9, D9, R9))) else if x0 = 2 then (qc_bd (fX8_isEndless w I L D R x1) fun r13 I13 L13 D13 R13 => if r13 = true then (if (Op.cmpValue (FP.dcmp x3 x1) .l) = 0 then (some (true, I13, L13, D13, R13)) else (some (false, I13, L13, D13, R13))) else (some (false, I13, L13, D13, R13))) else if x0 = 3 then (qc_bd (fX8_isEndless w I L D R x1) fun r17 I17 L17 D17 R17 => if r17 = true then (if (Op.cmpValue (FP.dcmp x3 (0 : UInt64)) .l) = 0 then (some (true, I17, L17, D17, R17)) else (fX8_isLost_b84 w I17 L17 D17 R17 x1 x3)) else (fX8_isLost_b84 w I17 L17 D17 R17 x1 x3)) else if x0 = 4 then (if (Op.cmpValue (FP.dcmp x1 (0 : UInt64)) .l) = 0 then (if (Op.cmpValue (FP.dcmp x3 (0 : UInt64)) .l) = 0 then (some (true, I, L, D, R)) else (fX8_isLost_b115 w I L D R x1 x3)) else (fX8_isLost_b115 w I L D R x1 x3)) else (qc_bd (fX8_isEndless w I L D R x1) fun r23 I23 L23 D23 R23 => if r23 = true then (some (true, I23, L23, D23, R23)) else (if (Op.cmpValue (FP.dcmp x3 (0 : UInt64)) .l) = 0 then (some (true, I23, L23, D23, R23)) else (some (false, I23, L23, D23, R23)))))
set_option maxRecDepth 100000 in
set_option maxHeartbeats 4000000 in
theorem tX8_isLost {w : qcW} {I : qTI} {L : qTL} {D : qTD} {R : qTR} {x0 : Int32} {x1 : UInt64} {x3 : UInt64} {r : Bool} {I' : qTI} {L' : qTL} {D' : qTD} {R' : qTR} (hn : qcNF ≤ w.1) (hR : qc_FR R) (h : fX8_isLost w I L D R x0 x1 x3 = some (r, I', L', D', R')) : qc_fm qcSX (I, L, D, R) (I', L', D', R') ∧ qc_V (1) 0 0 qmX8_isLost [.int x0, .double x1, .double x3] w (I, L, D, R) (qc_eq (some (.int (qc_b r))) w (I', L', D', R')) := by
  unfold fX8_isLost at h
  refine And.imp_right (fun hx => qc_V.of rfl rfl (Nat.le_of_ble_eq_true rfl) (lv := [(0, .int x0), (1, .double x1), (3, .double x3)]) rfl hx) ?_
  refine And.imp_right (fun hx => qc_iload_n (qc_at qkX8_isLost 0 rfl) rfl <| hx) ?_
  refine qc_by (c := x0 = 1) (fun u8 => ?_) (fun u8 => ?_)
  · refine And.imp_right (fun hx => qc_tabIn (qc_at qkX8_isLost 1 rfl) 0 (by rw [u8]; rfl) (by decide) rfl rfl hx) ?_
    replace h := qc_jp u8 h
    refine And.imp_right (fun hx => qc_dload_n (qc_at qkX8_isLost 2 rfl) rfl <| hx) ?_
    obtain ⟨r9, I9, L9, D9, R9, e9, h⟩ := qc_bd_of h
    have c9 := (tX8_isEndless hn hR e9)
    refine qd_cSv (qc_at qkX8_isLost 3 rfl) ql_8_38 qfX8_isEndless c9 rfl rfl (Nat.le_of_ble_eq_true rfl) (qc_rml (by decide) (by decide)) ⟨Nat.zero_le _, Nat.zero_le _⟩ ?_
    refine qc_andB (qc_ifB_eq (qc_at qkX8_isLost 4 rfl)) (fun u10 => ?_) (fun u10 => ?_)
    · replace h := qc_jf u10 h
      obtain ⟨rfl, rfl, rfl, rfl, rfl⟩ := qc_some5 h
      exact ⟨qc_fm.rf _, qc_iconst (qc_at qkX8_isLost 12 rfl) <| qc_zret (qc_at qkX8_isLost 13 rfl) rfl (Or.inl rfl) (Nat.le_refl _) (Nat.le_refl _) ⟨rfl, rfl, rfl⟩⟩
    · replace h := qc_jt u10 h
      refine And.imp_right (fun hx => qc_dload_n (qc_at qkX8_isLost 5 rfl) rfl <| qc_dload_n (qc_at qkX8_isLost 6 rfl) rfl <| qc_dneg (qc_at qkX8_isLost 7 rfl) <| qc_dcmp (qc_at qkX8_isLost 8 rfl) <| hx) ?_
      refine qc_andN (qc_if_ne (qc_at qkX8_isLost 9 rfl)) (fun u11 => ?_) (fun u11 => ?_)
      · replace h := qc_jn u11 h
        obtain ⟨rfl, rfl, rfl, rfl, rfl⟩ := qc_some5 h
        exact ⟨qc_fm.rf _, qc_iconst (qc_at qkX8_isLost 12 rfl) <| qc_zret (qc_at qkX8_isLost 13 rfl) rfl (Or.inl rfl) (Nat.le_refl _) (Nat.le_refl _) ⟨rfl, rfl, rfl⟩⟩
      · replace h := qc_jp u11 h
        obtain ⟨rfl, rfl, rfl, rfl, rfl⟩ := qc_some5 h
        exact ⟨qc_fm.rf _, qc_iconst (qc_at qkX8_isLost 10 rfl) <| qc_goto (qc_at qkX8_isLost 11 rfl) <| qc_zret (qc_at qkX8_isLost 13 rfl) rfl (Or.inr rfl) (Nat.le_refl _) (Nat.le_refl _) ⟨rfl, rfl, rfl⟩⟩
  · replace h := qc_jn u8 h
    refine qc_by (c := x0 = 2) (fun u12 => ?_) (fun u12 => ?_)
    · refine And.imp_right (fun hx => qc_tabIn (qc_at qkX8_isLost 1 rfl) 1 (by rw [u12]; rfl) (by decide) rfl rfl hx) ?_
      replace h := qc_jp u12 h
      refine And.imp_right (fun hx => qc_dload_n (qc_at qkX8_isLost 14 rfl) rfl <| hx) ?_
      obtain ⟨r13, I13, L13, D13, R13, e13, h⟩ := qc_bd_of h
      have c13 := (tX8_isEndless hn hR e13)
      refine qd_cSv (qc_at qkX8_isLost 15 rfl) ql_8_38 qfX8_isEndless c13 rfl rfl (Nat.le_of_ble_eq_true rfl) (qc_rml (by decide) (by decide)) ⟨Nat.zero_le _, Nat.zero_le _⟩ ?_
      refine qc_andB (qc_ifB_eq (qc_at qkX8_isLost 16 rfl)) (fun u14 => ?_) (fun u14 => ?_)
      · replace h := qc_jf u14 h
        obtain ⟨rfl, rfl, rfl, rfl, rfl⟩ := qc_some5 h
        exact ⟨qc_fm.rf _, qc_iconst (qc_at qkX8_isLost 23 rfl) <| qc_zret (qc_at qkX8_isLost 24 rfl) rfl (Or.inl rfl) (Nat.le_refl _) (Nat.le_refl _) ⟨rfl, rfl, rfl⟩⟩
      · replace h := qc_jt u14 h
        refine And.imp_right (fun hx => qc_dload_n (qc_at qkX8_isLost 17 rfl) rfl <| qc_dload_n (qc_at qkX8_isLost 18 rfl) rfl <| qc_dcmp (qc_at qkX8_isLost 19 rfl) <| hx) ?_
        refine qc_andN (qc_if_ne (qc_at qkX8_isLost 20 rfl)) (fun u15 => ?_) (fun u15 => ?_)
        · replace h := qc_jn u15 h
          obtain ⟨rfl, rfl, rfl, rfl, rfl⟩ := qc_some5 h
          exact ⟨qc_fm.rf _, qc_iconst (qc_at qkX8_isLost 23 rfl) <| qc_zret (qc_at qkX8_isLost 24 rfl) rfl (Or.inl rfl) (Nat.le_refl _) (Nat.le_refl _) ⟨rfl, rfl, rfl⟩⟩
        · replace h := qc_jp u15 h
          obtain ⟨rfl, rfl, rfl, rfl, rfl⟩ := qc_some5 h
          exact ⟨qc_fm.rf _, qc_iconst (qc_at qkX8_isLost 21 rfl) <| qc_goto (qc_at qkX8_isLost 22 rfl) <| qc_zret (qc_at qkX8_isLost 24 rfl) rfl (Or.inr rfl) (Nat.le_refl _) (Nat.le_refl _) ⟨rfl, rfl, rfl⟩⟩
    · replace h := qc_jn u12 h
      refine qc_by (c := x0 = 3) (fun u16 => ?_) (fun u16 => ?_)
      · refine And.imp_right (fun hx => qc_tabIn (qc_at qkX8_isLost 1 rfl) 2 (by rw [u16]; rfl) (by decide) rfl rfl hx) ?_
        replace h := qc_jp u16 h
        refine And.imp_right (fun hx => qc_dload_n (qc_at qkX8_isLost 25 rfl) rfl <| hx) ?_
        obtain ⟨r17, I17, L17, D17, R17, e17, h⟩ := qc_bd_of h
        have c17 := (tX8_isEndless hn hR e17)
        refine qd_cSv (qc_at qkX8_isLost 26 rfl) ql_8_38 qfX8_isEndless c17 rfl rfl (Nat.le_of_ble_eq_true rfl) (qc_rml (by decide) (by decide)) ⟨Nat.zero_le _, Nat.zero_le _⟩ ?_
        refine qc_andB (qc_ifB_eq (qc_at qkX8_isLost 27 rfl)) (fun u18 => ?_) (fun u18 => ?_)
        · replace h := qc_jf u18 h
          exact And.imp_right (fun hx => qc_sub [1, 2] rfl hx) (tX8_isLost_b84 hn (c17.1.1 hR) h)
        · replace h := qc_jt u18 h
          refine And.imp_right (fun hx => qc_dload_n (qc_at qkX8_isLost 28 rfl) rfl <| qc_dconst (qc_at qkX8_isLost 29 rfl) <| qc_dcmp (qc_at qkX8_isLost 30 rfl) <| hx) ?_
          refine qc_andC (qc_if_eq (qc_at qkX8_isLost 31 rfl)) (fun u19 => ?_) (fun u19 => ?_)
          · replace h := qc_jp u19 h
            obtain ⟨rfl, rfl, rfl, rfl, rfl⟩ := qc_some5 h
            exact ⟨qc_fm.rf _, qc_iconst (qc_at qkX8_isLost 39 rfl) <| qc_goto (qc_at qkX8_isLost 40 rfl) <| qc_zret (qc_at qkX8_isLost 42 rfl) rfl (Or.inr rfl) (Nat.le_refl _) (Nat.le_refl _) ⟨rfl, rfl, rfl⟩⟩
          · replace h := qc_jn u19 h
            exact And.imp_right (fun hx => qc_sub [1, 2] rfl hx) (tX8_isLost_b84 hn (c17.1.1 hR) h)
      · replace h := qc_jn u16 h
        refine qc_by (c := x0 = 4) (fun u20 => ?_) (fun u20 => ?_)
        · refine And.imp_right (fun hx => qc_tabIn (qc_at qkX8_isLost 1 rfl) 3 (by rw [u20]; rfl) (by decide) rfl rfl hx) ?_
          replace h := qc_jp u20 h
          refine And.imp_right (fun hx => qc_dload_n (qc_at qkX8_isLost 43 rfl) rfl <| qc_dconst (qc_at qkX8_isLost 44 rfl) <| qc_dcmp (qc_at qkX8_isLost 45 rfl) <| hx) ?_
          refine qc_andN (qc_if_ne (qc_at qkX8_isLost 46 rfl)) (fun u21 => ?_) (fun u21 => ?_)
          · replace h := qc_jn u21 h
            exact And.imp_right (fun hx => qc_sub [1, 2] rfl hx) (tX8_isLost_b115 hn hR h)
          · replace h := qc_jp u21 h
            refine And.imp_right (fun hx => qc_dload_n (qc_at qkX8_isLost 47 rfl) rfl <| qc_dconst (qc_at qkX8_isLost 48 rfl) <| qc_dcmp (qc_at qkX8_isLost 49 rfl) <| hx) ?_
            refine qc_andC (qc_if_eq (qc_at qkX8_isLost 50 rfl)) (fun u22 => ?_) (fun u22 => ?_)
            · replace h := qc_jp u22 h
              obtain ⟨rfl, rfl, rfl, rfl, rfl⟩ := qc_some5 h
              exact ⟨qc_fm.rf _, qc_iconst (qc_at qkX8_isLost 57 rfl) <| qc_goto (qc_at qkX8_isLost 58 rfl) <| qc_zret (qc_at qkX8_isLost 60 rfl) rfl (Or.inr rfl) (Nat.le_refl _) (Nat.le_refl _) ⟨rfl, rfl, rfl⟩⟩
            · replace h := qc_jn u22 h
              exact And.imp_right (fun hx => qc_sub [1, 2] rfl hx) (tX8_isLost_b115 hn hR h)
        · replace h := qc_jn u20 h
          have v8 : ¬ Int32.toInt x0 = 1 := fun z => u8 (qc_i32 z rfl)
          have v12 : ¬ Int32.toInt x0 = 2 := fun z => u12 (qc_i32 z rfl)
          have v16 : ¬ Int32.toInt x0 = 3 := fun z => u16 (qc_i32 z rfl)
          have v20 : ¬ Int32.toInt x0 = 4 := fun z => u20 (qc_i32 z rfl)
          refine And.imp_right (fun hx => qc_tabOut (qc_at qkX8_isLost 1 rfl) (by omega) rfl hx) ?_
          refine And.imp_right (fun hx => qc_dload_n (qc_at qkX8_isLost 61 rfl) rfl <| hx) ?_
          obtain ⟨r23, I23, L23, D23, R23, e23, h⟩ := qc_bd_of h
          have c23 := (tX8_isEndless hn hR e23)
          refine qd_cSv (qc_at qkX8_isLost 62 rfl) ql_8_38 qfX8_isEndless c23 rfl rfl (Nat.le_of_ble_eq_true rfl) (qc_rml (by decide) (by decide)) ⟨Nat.zero_le _, Nat.zero_le _⟩ ?_
          refine qc_andBn (qc_ifB_ne (qc_at qkX8_isLost 63 rfl)) (fun u24 => ?_) (fun u24 => ?_)
          · replace h := qc_jt u24 h
            obtain ⟨rfl, rfl, rfl, rfl, rfl⟩ := qc_some5 h
            exact ⟨qc_fm.rf _, qc_iconst (qc_at qkX8_isLost 68 rfl) <| qc_goto (qc_at qkX8_isLost 69 rfl) <| qc_zret (qc_at qkX8_isLost 71 rfl) rfl (Or.inr rfl) (Nat.le_refl _) (Nat.le_refl _) ⟨rfl, rfl, rfl⟩⟩
          · replace h := qc_jf u24 h
            refine And.imp_right (fun hx => qc_dload_n (qc_at qkX8_isLost 64 rfl) rfl <| qc_dconst (qc_at qkX8_isLost 65 rfl) <| qc_dcmp (qc_at qkX8_isLost 66 rfl) <| hx) ?_
            refine qc_andN (qc_if_ne (qc_at qkX8_isLost 67 rfl)) (fun u25 => ?_) (fun u25 => ?_)
            · replace h := qc_jn u25 h
              obtain ⟨rfl, rfl, rfl, rfl, rfl⟩ := qc_some5 h
              exact ⟨qc_fm.rf _, qc_iconst (qc_at qkX8_isLost 70 rfl) <| qc_zret (qc_at qkX8_isLost 71 rfl) rfl (Or.inl rfl) (Nat.le_refl _) (Nat.le_refl _) ⟨rfl, rfl, rfl⟩⟩
            · replace h := qc_jp u25 h
              obtain ⟨rfl, rfl, rfl, rfl, rfl⟩ := qc_some5 h
              exact ⟨qc_fm.rf _, qc_iconst (qc_at qkX8_isLost 68 rfl) <| qc_goto (qc_at qkX8_isLost 69 rfl) <| qc_zret (qc_at qkX8_isLost 71 rfl) rfl (Or.inr rfl) (Nat.le_refl _) (Nat.le_refl _) ⟨rfl, rfl, rfl⟩⟩
def fX8_remainder_b104 (w : qcW) (k82 : qTI × qTL × qTD × qTR × UInt64 × UInt64 × UInt64 × Int32 × Int32 → qcO UInt64) (I : qTI) (L : qTL) (D : qTD) (R : qTR) (x0 : UInt64) (x4 : UInt64) (x6 : UInt64) (x8 : Int32) (x9 : Int32) : qcO UInt64 :=
  (qc_gd (qc_n64 (FP.dmul x6 (4602678819172646912 : UInt64))) <| k82 (I, L, D, R, x0, x4, (FP.dmul x6 (4602678819172646912 : UInt64)), x8, (x9 + (1))))
set_option maxRecDepth 100000 in
set_option maxHeartbeats 4000000 in
theorem tX8_remainder_b104 {w : qcW} {I : qTI} {L : qTL} {D : qTD} {R : qTR} {k82 : qTI × qTL × qTD × qTR × UInt64 × UInt64 × UInt64 × Int32 × Int32 → qcO UInt64} {x0 : UInt64} {x4 : UInt64} {x6 : UInt64} {x8 : Int32} {x9 : Int32} {r : UInt64} {I' : qTI} {L' : qTL} {D' : qTD} {R' : qTR} (hn : qcNF ≤ w.1) (hR : qc_FR R) (hk82 : ∀ {I : qTI} {L : qTL} {D : qTD} {R : qTR} {x0 : UInt64} {x4 : UInt64} {x6 : UInt64} {x8 : Int32} {x9 : Int32} {r : UInt64} {I' : qTI} {L' : qTL} {D' : qTD} {R' : qTR}, qc_FR R → k82 (I, L, D, R, x0, x4, x6, x8, x9) = some (r, I', L', D', R') → qc_fm qcSX (I, L, D, R) (I', L', D', R') ∧ qc_X (qc_rm (0) 0 0) qmX8_remainder (qc_QM 0 0 (qc_eq (some (.double r)) w (I', L', D', R'))) 0 0 w (82, [(0, .double x0), (4, .double x4), (6, .double x6), (8, .int x8), (9, .int x9)], [], I, L, D, R)) (h : fX8_remainder_b104 w k82 I L D R x0 x4 x6 x8 x9 = some (r, I', L', D', R')) : qc_fm qcSX (I, L, D, R) (I', L', D', R') ∧ qc_X (qc_rm (0) 0 0) qmX8_remainder (qc_QM 0 0 (qc_eq (some (.double r)) w (I', L', D', R'))) 0 0 w (104, [(0, .double x0), (4, .double x4), (6, .double x6), (8, .int x8), (9, .int x9)], [], I, L, D, R) := by
  unfold fX8_remainder_b104 at h
  refine And.imp_right (fun hx => qc_dload (qc_at qkX8_remainder 57 rfl) rfl <| qc_ldc2d (qc_at qkX8_remainder 58 rfl) <| hx) ?_
  obtain ⟨g1, h⟩ := qc_gd_of h
  replace g1 := qc_n64_of g1
  exact And.imp_right (fun hx => qc_dmul (qc_at qkX8_remainder 59 rfl) g1 <| qc_dstore (lv' := [(6, _), (0, _), (4, _), (8, _), (9, _)]) (qc_at qkX8_remainder 60 rfl) rfl rfl <| qc_iinc (lv' := [(9, _), (6, _), (0, _), (4, _), (8, _)]) (qc_at qkX8_remainder 61 rfl) rfl rfl rfl <| qc_goto (qc_at qkX8_remainder 62 rfl) <| qc_sub [2, 3, 1, 4, 0] rfl hx) (hk82 hR h)
def fX8_remainder_b82 (w : qcW) (k82 : qTI × qTL × qTD × qTR × UInt64 × UInt64 × UInt64 × Int32 × Int32 → qcO UInt64) (I : qTI) (L : qTL) (D : qTD) (R : qTR) (x0 : UInt64) (x4 : UInt64) (x6 : UInt64) (x8 : Int32) (x9 : Int32) : qcO UInt64 :=
  (if x8 < x9 then (if 0 ≤ (Op.cmpValue (FP.dcmp x0 (0 : UInt64)) .g) then (some (x4, I, L, D, R)) else (some ((FP.dneg x4), I, L, D, R))) else (if (Op.cmpValue (FP.dcmp x4 x6) .l) < 0 then (fX8_remainder_b104 w k82 I L D R x0 x4 x6 x8 x9) else (qc_gd (qc_n64 (FP.dsub x4 x6)) <| fX8_remainder_b104 w k82 I L D R x0 (FP.dsub x4 x6) x6 x8 x9)))
set_option maxRecDepth 100000 in
set_option maxHeartbeats 4000000 in
theorem tX8_remainder_b82 {w : qcW} {I : qTI} {L : qTL} {D : qTD} {R : qTR} {k82 : qTI × qTL × qTD × qTR × UInt64 × UInt64 × UInt64 × Int32 × Int32 → qcO UInt64} {x0 : UInt64} {x4 : UInt64} {x6 : UInt64} {x8 : Int32} {x9 : Int32} {r : UInt64} {I' : qTI} {L' : qTL} {D' : qTD} {R' : qTR} (hn : qcNF ≤ w.1) (hR : qc_FR R) (hk82 : ∀ {I : qTI} {L : qTL} {D : qTD} {R : qTR} {x0 : UInt64} {x4 : UInt64} {x6 : UInt64} {x8 : Int32} {x9 : Int32} {r : UInt64} {I' : qTI} {L' : qTL} {D' : qTD} {R' : qTR}, qc_FR R → k82 (I, L, D, R, x0, x4, x6, x8, x9) = some (r, I', L', D', R') → qc_fm qcSX (I, L, D, R) (I', L', D', R') ∧ qc_X (qc_rm (0) 0 0) qmX8_remainder (qc_QM 0 0 (qc_eq (some (.double r)) w (I', L', D', R'))) 0 0 w (82, [(0, .double x0), (4, .double x4), (6, .double x6), (8, .int x8), (9, .int x9)], [], I, L, D, R)) (h : fX8_remainder_b82 w k82 I L D R x0 x4 x6 x8 x9 = some (r, I', L', D', R')) : qc_fm qcSX (I, L, D, R) (I', L', D', R') ∧ qc_X (qc_rm (0) 0 0) qmX8_remainder (qc_QM 0 0 (qc_eq (some (.double r)) w (I', L', D', R'))) 0 0 w (82, [(0, .double x0), (4, .double x4), (6, .double x6), (8, .int x8), (9, .int x9)], [], I, L, D, R) := by
  unfold fX8_remainder_b82 at h
  refine And.imp_right (fun hx => qc_iload (qc_at qkX8_remainder 46 rfl) rfl <| qc_iload (qc_at qkX8_remainder 47 rfl) rfl <| hx) ?_
  refine qc_andC (qc_icmp_gt (qc_at qkX8_remainder 48 rfl)) (fun u2 => ?_) (fun u2 => ?_)
  · replace h := qc_jp u2 h
    refine And.imp_right (fun hx => qc_dload_n (qc_at qkX8_remainder 63 rfl) rfl <| qc_dconst (qc_at qkX8_remainder 64 rfl) <| qc_dcmp (qc_at qkX8_remainder 65 rfl) <| hx) ?_
    refine qc_andC (qc_if_ge (qc_at qkX8_remainder 66 rfl)) (fun u3 => ?_) (fun u3 => ?_)
    · replace h := qc_jp u3 h
      obtain ⟨rfl, rfl, rfl, rfl, rfl⟩ := qc_some5 h
      exact ⟨qc_fm.rf _, qc_dload (qc_at qkX8_remainder 70 rfl) rfl <| qc_dret (qc_at qkX8_remainder 71 rfl) rfl (Nat.le_refl _) (Nat.le_refl _) (qc_eq.rf _ _ _)⟩
    · replace h := qc_jn u3 h
      obtain ⟨rfl, rfl, rfl, rfl, rfl⟩ := qc_some5 h
      exact ⟨qc_fm.rf _, qc_dload (qc_at qkX8_remainder 67 rfl) rfl <| qc_dneg (qc_at qkX8_remainder 68 rfl) <| qc_goto (qc_at qkX8_remainder 69 rfl) <| qc_dret (qc_at qkX8_remainder 71 rfl) rfl (Nat.le_refl _) (Nat.le_refl _) (qc_eq.rf _ _ _)⟩
  · replace h := qc_jn u2 h
    refine And.imp_right (fun hx => qc_dload (qc_at qkX8_remainder 49 rfl) rfl <| qc_dload (qc_at qkX8_remainder 50 rfl) rfl <| qc_dcmp (qc_at qkX8_remainder 51 rfl) <| hx) ?_
    refine qc_andC (qc_if_lt (qc_at qkX8_remainder 52 rfl)) (fun u4 => ?_) (fun u4 => ?_)
    · replace h := qc_jp u4 h
      exact And.imp_right (fun hx => qc_sub [0, 1, 2, 3, 4] rfl hx) (tX8_remainder_b104 hn hR hk82 h)
    · replace h := qc_jn u4 h
      refine And.imp_right (fun hx => qc_dload (qc_at qkX8_remainder 53 rfl) rfl <| qc_dload (qc_at qkX8_remainder 54 rfl) rfl <| hx) ?_
      obtain ⟨g5, h⟩ := qc_gd_of h
      replace g5 := qc_n64_of g5
      exact And.imp_right (fun hx => qc_dsub (qc_at qkX8_remainder 55 rfl) g5 <| qc_dstore (lv' := [(4, _), (0, _), (6, _), (8, _), (9, _)]) (qc_at qkX8_remainder 56 rfl) rfl rfl <| qc_sub [1, 0, 2, 3, 4] rfl hx) (tX8_remainder_b104 hn hR hk82 h)
def fX8_remainder_l82 (w : qcW) : Nat → qTI × qTL × qTD × qTR × UInt64 × UInt64 × UInt64 × Int32 × Int32 → qcO UInt64 := qc_lp (fun k q => match q with | (I, L, D, R, x0, x4, x6, x8, x9) => fX8_remainder_b82 w k I L D R x0 x4 x6 x8 x9)
set_option maxRecDepth 100000 in
set_option maxHeartbeats 4000000 in
theorem tX8_remainder_l82 {w : qcW} (hn : qcNF ≤ w.1) : ∀ (n : Nat) {r : UInt64} {I' : qTI} {L' : qTL} {D' : qTD} {R' : qTR} {I : qTI} {L : qTL} {D : qTD} {R : qTR} {x0 : UInt64} {x4 : UInt64} {x6 : UInt64} {x8 : Int32} {x9 : Int32} (hR : qc_FR R) (h : fX8_remainder_l82 w n (I, L, D, R, x0, x4, x6, x8, x9) = some (r, I', L', D', R')), qc_fm qcSX (I, L, D, R) (I', L', D', R') ∧ qc_X (qc_rm (0) 0 0) qmX8_remainder (qc_QM 0 0 (qc_eq (some (.double r)) w (I', L', D', R'))) 0 0 w (82, [(0, .double x0), (4, .double x4), (6, .double x6), (8, .int x8), (9, .int x9)], [], I, L, D, R) := by
  intro n
  induction n with
  | zero => intro _ _ _ _ _ _ _ _ _ _ _ _ _ _ _ h; cases h
  | succ n ih => intro _ _ _ _ _ _ _ _ _ _ _ _ _ _ hR h; exact tX8_remainder_b82 hn hR (k82 := fX8_remainder_l82 w n) (fun hR h => ih hR h) h
def fX8_remainder_b79 (w : qcW) (I : qTI) (L : qTL) (D : qTD) (R : qTR) (x0 : UInt64) (x4 : UInt64) (x6 : UInt64) (x8 : Int32) : qcO UInt64 :=
  (fX8_remainder_l82 w qcF (I, L, D, R, x0, x4, x6, x8, (0 : Int32)))
set_option maxRecDepth 100000 in
set_option maxHeartbeats 4000000 in
theorem tX8_remainder_b79 {w : qcW} {I : qTI} {L : qTL} {D : qTD} {R : qTR} {x0 : UInt64} {x4 : UInt64} {x6 : UInt64} {x8 : Int32} {r : UInt64} {I' : qTI} {L' : qTL} {D' : qTD} {R' : qTR} (hn : qcNF ≤ w.1) (hR : qc_FR R) (h : fX8_remainder_b79 w I L D R x0 x4 x6 x8 = some (r, I', L', D', R')) : qc_fm qcSX (I, L, D, R) (I', L', D', R') ∧ qc_X (qc_rm (0) 0 0) qmX8_remainder (qc_QM 0 0 (qc_eq (some (.double r)) w (I', L', D', R'))) 0 0 w (79, [(0, .double x0), (4, .double x4), (6, .double x6), (8, .int x8)], [], I, L, D, R) := by
  unfold fX8_remainder_b79 at h
  exact And.imp_right (fun hx => qc_iconst (qc_at qkX8_remainder 44 rfl) <| qc_istore (lv' := [(9, _), (0, _), (4, _), (6, _), (8, _)]) (qc_at qkX8_remainder 45 rfl) rfl rfl <| qc_sub [1, 2, 3, 4, 0] rfl hx) (tX8_remainder_l82 hn qcF hR h)
def fX8_remainder_b44 (w : qcW) (k44 : qTI × qTL × qTD × qTR × UInt64 × UInt64 × UInt64 × Int32 × Int32 → qcO UInt64) (I : qTI) (L : qTL) (D : qTD) (R : qTR) (x0 : UInt64) (x4 : UInt64) (x6 : UInt64) (x8 : Int32) (x9 : Int32) : qcO UInt64 :=
  (if (2200 : Int32) ≤ x9 then (fX8_remainder_b79 w I L D R x0 x4 x6 x8) else (qc_gd (qc_n64 (FP.dadd x6 x6)) <| if 0 < (Op.cmpValue (FP.dcmp (FP.dadd x6 x6) x4) .g) then (fX8_remainder_b79 w I L D R x0 x4 x6 x8) else (qc_gd (qc_n64 (FP.dadd x6 x6)) <| k44 (I, L, D, R, x0, x4, (FP.dadd x6 x6), (x8 + (1)), (x9 + (1))))))
set_option maxRecDepth 100000 in
set_option maxHeartbeats 4000000 in
theorem tX8_remainder_b44 {w : qcW} {I : qTI} {L : qTL} {D : qTD} {R : qTR} {k44 : qTI × qTL × qTD × qTR × UInt64 × UInt64 × UInt64 × Int32 × Int32 → qcO UInt64} {x0 : UInt64} {x4 : UInt64} {x6 : UInt64} {x8 : Int32} {x9 : Int32} {r : UInt64} {I' : qTI} {L' : qTL} {D' : qTD} {R' : qTR} (hn : qcNF ≤ w.1) (hR : qc_FR R) (hk44 : ∀ {I : qTI} {L : qTL} {D : qTD} {R : qTR} {x0 : UInt64} {x4 : UInt64} {x6 : UInt64} {x8 : Int32} {x9 : Int32} {r : UInt64} {I' : qTI} {L' : qTL} {D' : qTD} {R' : qTR}, qc_FR R → k44 (I, L, D, R, x0, x4, x6, x8, x9) = some (r, I', L', D', R') → qc_fm qcSX (I, L, D, R) (I', L', D', R') ∧ qc_X (qc_rm (0) 0 0) qmX8_remainder (qc_QM 0 0 (qc_eq (some (.double r)) w (I', L', D', R'))) 0 0 w (44, [(0, .double x0), (4, .double x4), (6, .double x6), (8, .int x8), (9, .int x9)], [], I, L, D, R)) (h : fX8_remainder_b44 w k44 I L D R x0 x4 x6 x8 x9 = some (r, I', L', D', R')) : qc_fm qcSX (I, L, D, R) (I', L', D', R') ∧ qc_X (qc_rm (0) 0 0) qmX8_remainder (qc_QM 0 0 (qc_eq (some (.double r)) w (I', L', D', R'))) 0 0 w (44, [(0, .double x0), (4, .double x4), (6, .double x6), (8, .int x8), (9, .int x9)], [], I, L, D, R) := by
  unfold fX8_remainder_b44 at h
  refine And.imp_right (fun hx => qc_iload (qc_at qkX8_remainder 28 rfl) rfl <| qc_sipush (qc_at qkX8_remainder 29 rfl) <| hx) ?_
  refine qc_andC (qc_icmp_ge (qc_at qkX8_remainder 30 rfl)) (fun u6 => ?_) (fun u6 => ?_)
  · replace h := qc_jp u6 h
    exact And.imp_right (fun hx => qc_sub [0, 1, 2, 3] rfl hx) (tX8_remainder_b79 hn hR h)
  · replace h := qc_jn u6 h
    refine And.imp_right (fun hx => qc_dload (qc_at qkX8_remainder 31 rfl) rfl <| qc_dload (qc_at qkX8_remainder 32 rfl) rfl <| hx) ?_
    obtain ⟨g7, h⟩ := qc_gd_of h
    replace g7 := qc_n64_of g7
    refine And.imp_right (fun hx => qc_dadd (qc_at qkX8_remainder 33 rfl) g7 <| qc_dload (qc_at qkX8_remainder 34 rfl) rfl <| qc_dcmp (qc_at qkX8_remainder 35 rfl) <| hx) ?_
    refine qc_andC (qc_if_gt (qc_at qkX8_remainder 36 rfl)) (fun u8 => ?_) (fun u8 => ?_)
    · replace h := qc_jp u8 h
      exact And.imp_right (fun hx => qc_sub [0, 1, 2, 3] rfl hx) (tX8_remainder_b79 hn hR h)
    · replace h := qc_jn u8 h
      refine And.imp_right (fun hx => qc_dload (qc_at qkX8_remainder 37 rfl) rfl <| qc_dload (qc_at qkX8_remainder 38 rfl) rfl <| hx) ?_
      obtain ⟨g9, h⟩ := qc_gd_of h
      replace g9 := qc_n64_of g9
      exact And.imp_right (fun hx => qc_dadd (qc_at qkX8_remainder 39 rfl) g9 <| qc_dstore (lv' := [(6, _), (0, _), (4, _), (8, _), (9, _)]) (qc_at qkX8_remainder 40 rfl) rfl rfl <| qc_iinc (lv' := [(8, _), (6, _), (0, _), (4, _), (9, _)]) (qc_at qkX8_remainder 41 rfl) rfl rfl rfl <| qc_iinc (lv' := [(9, _), (8, _), (6, _), (0, _), (4, _)]) (qc_at qkX8_remainder 42 rfl) rfl rfl rfl <| qc_goto (qc_at qkX8_remainder 43 rfl) <| qc_sub [3, 4, 2, 1, 0] rfl hx) (hk44 hR h)
def fX8_remainder_l44 (w : qcW) : Nat → qTI × qTL × qTD × qTR × UInt64 × UInt64 × UInt64 × Int32 × Int32 → qcO UInt64 := qc_lp (fun k q => match q with | (I, L, D, R, x0, x4, x6, x8, x9) => fX8_remainder_b44 w k I L D R x0 x4 x6 x8 x9)
set_option maxRecDepth 100000 in
set_option maxHeartbeats 4000000 in
theorem tX8_remainder_l44 {w : qcW} (hn : qcNF ≤ w.1) : ∀ (n : Nat) {r : UInt64} {I' : qTI} {L' : qTL} {D' : qTD} {R' : qTR} {I : qTI} {L : qTL} {D : qTD} {R : qTR} {x0 : UInt64} {x4 : UInt64} {x6 : UInt64} {x8 : Int32} {x9 : Int32} (hR : qc_FR R) (h : fX8_remainder_l44 w n (I, L, D, R, x0, x4, x6, x8, x9) = some (r, I', L', D', R')), qc_fm qcSX (I, L, D, R) (I', L', D', R') ∧ qc_X (qc_rm (0) 0 0) qmX8_remainder (qc_QM 0 0 (qc_eq (some (.double r)) w (I', L', D', R'))) 0 0 w (44, [(0, .double x0), (4, .double x4), (6, .double x6), (8, .int x8), (9, .int x9)], [], I, L, D, R) := by
  intro n
  induction n with
  | zero => intro _ _ _ _ _ _ _ _ _ _ _ _ _ _ _ h; cases h
  | succ n ih => intro _ _ _ _ _ _ _ _ _ _ _ _ _ _ hR h; exact tX8_remainder_b44 hn hR (k44 := fX8_remainder_l44 w n) (fun hR h => ih hR h) h
def fX8_remainder_b26 (w : qcW) (I : qTI) (L : qTL) (D : qTD) (R : qTR) (x0 : UInt64) (x4 : UInt64) (s0 : UInt64) : qcO UInt64 :=
  (if 0 ≤ (Op.cmpValue (FP.dcmp x4 s0) .g) then (fX8_remainder_l44 w qcF (I, L, D, R, x0, x4, s0, (0 : Int32), (0 : Int32))) else (some (x0, I, L, D, R)))
set_option maxRecDepth 100000 in
set_option maxHeartbeats 4000000 in
theorem tX8_remainder_b26 {w : qcW} {I : qTI} {L : qTL} {D : qTD} {R : qTR} {x0 : UInt64} {x4 : UInt64} {s0 : UInt64} {r : UInt64} {I' : qTI} {L' : qTL} {D' : qTD} {R' : qTR} (hn : qcNF ≤ w.1) (hR : qc_FR R) (h : fX8_remainder_b26 w I L D R x0 x4 s0 = some (r, I', L', D', R')) : qc_fm qcSX (I, L, D, R) (I', L', D', R') ∧ qc_X (qc_rm (0) 0 0) qmX8_remainder (qc_QM 0 0 (qc_eq (some (.double r)) w (I', L', D', R'))) 0 0 w (26, [(0, .double x0), (4, .double x4)], [.double s0], I, L, D, R) := by
  unfold fX8_remainder_b26 at h
  refine And.imp_right (fun hx => qc_dstore (lv' := [(6, _), (0, _), (4, _)]) (qc_at qkX8_remainder 17 rfl) rfl rfl <| qc_dload (qc_at qkX8_remainder 18 rfl) rfl <| qc_dload (qc_at qkX8_remainder 19 rfl) rfl <| qc_dcmp (qc_at qkX8_remainder 20 rfl) <| hx) ?_
  refine qc_andC (qc_if_ge (qc_at qkX8_remainder 21 rfl)) (fun u10 => ?_) (fun u10 => ?_)
  · replace h := qc_jp u10 h
    exact And.imp_right (fun hx => qc_iconst (qc_at qkX8_remainder 24 rfl) <| qc_istore (lv' := [(8, _), (6, _), (0, _), (4, _)]) (qc_at qkX8_remainder 25 rfl) rfl rfl <| qc_iconst (qc_at qkX8_remainder 26 rfl) <| qc_istore (lv' := [(9, _), (8, _), (6, _), (0, _), (4, _)]) (qc_at qkX8_remainder 27 rfl) rfl rfl <| qc_sub [3, 4, 2, 1, 0] rfl hx) (tX8_remainder_l44 hn qcF hR h)
  · replace h := qc_jn u10 h
    obtain ⟨rfl, rfl, rfl, rfl, rfl⟩ := qc_some5 h
    exact ⟨qc_fm.rf _, qc_dload_n (qc_at qkX8_remainder 22 rfl) rfl <| qc_dret (qc_at qkX8_remainder 23 rfl) rfl (Nat.le_refl _) (Nat.le_refl _) (qc_eq.rf _ _ _)⟩
def fX8_remainder_b12 (w : qcW) (I : qTI) (L : qTL) (D : qTD) (R : qTR) (x0 : UInt64) (x2 : UInt64) (s0 : UInt64) : qcO UInt64 :=
  (if 0 ≤ (Op.cmpValue (FP.dcmp x2 (0 : UInt64)) .g) then (fX8_remainder_b26 w I L D R x0 s0 x2) else (fX8_remainder_b26 w I L D R x0 s0 (FP.dneg x2)))
set_option maxRecDepth 100000 in
set_option maxHeartbeats 4000000 in
theorem tX8_remainder_b12 {w : qcW} {I : qTI} {L : qTL} {D : qTD} {R : qTR} {x0 : UInt64} {x2 : UInt64} {s0 : UInt64} {r : UInt64} {I' : qTI} {L' : qTL} {D' : qTD} {R' : qTR} (hn : qcNF ≤ w.1) (hR : qc_FR R) (h : fX8_remainder_b12 w I L D R x0 x2 s0 = some (r, I', L', D', R')) : qc_fm qcSX (I, L, D, R) (I', L', D', R') ∧ qc_X (qc_rm (0) 0 0) qmX8_remainder (qc_QM 0 0 (qc_eq (some (.double r)) w (I', L', D', R'))) 0 0 w (12, [(0, .double x0), (2, .double x2)], [.double s0], I, L, D, R) := by
  unfold fX8_remainder_b12 at h
  refine And.imp_right (fun hx => qc_dstore (lv' := [(4, _), (0, _), (2, _)]) (qc_at qkX8_remainder 8 rfl) rfl rfl <| qc_dload_n (qc_at qkX8_remainder 9 rfl) rfl <| qc_dconst (qc_at qkX8_remainder 10 rfl) <| qc_dcmp (qc_at qkX8_remainder 11 rfl) <| hx) ?_
  refine qc_andC (qc_if_ge (qc_at qkX8_remainder 12 rfl)) (fun u11 => ?_) (fun u11 => ?_)
  · replace h := qc_jp u11 h
    exact And.imp_right (fun hx => qc_dload_n (qc_at qkX8_remainder 16 rfl) rfl <| qc_sub [1, 0] rfl hx) (tX8_remainder_b26 hn hR h)
  · replace h := qc_jn u11 h
    exact And.imp_right (fun hx => qc_dload_n (qc_at qkX8_remainder 13 rfl) rfl <| qc_dneg (qc_at qkX8_remainder 14 rfl) <| qc_goto (qc_at qkX8_remainder 15 rfl) <| qc_sub [1, 0] rfl hx) (tX8_remainder_b26 hn hR h)
def fX8_remainder (w : qcW) (I : qTI) (L : qTL) (D : qTD) (R : qTR) (x0 : UInt64) (x2 : UInt64) : qcO UInt64 :=
  (if 0 ≤ (Op.cmpValue (FP.dcmp x0 (0 : UInt64)) .g) then (fX8_remainder_b12 w I L D R x0 x2 x0) else (fX8_remainder_b12 w I L D R x0 x2 (FP.dneg x0)))
set_option maxRecDepth 100000 in
set_option maxHeartbeats 4000000 in
theorem tX8_remainder {w : qcW} {I : qTI} {L : qTL} {D : qTD} {R : qTR} {x0 : UInt64} {x2 : UInt64} {r : UInt64} {I' : qTI} {L' : qTL} {D' : qTD} {R' : qTR} (hn : qcNF ≤ w.1) (hR : qc_FR R) (h : fX8_remainder w I L D R x0 x2 = some (r, I', L', D', R')) : qc_fm qcSX (I, L, D, R) (I', L', D', R') ∧ qc_V (0) 0 0 qmX8_remainder [.double x0, .double x2] w (I, L, D, R) (qc_eq (some (.double r)) w (I', L', D', R')) := by
  unfold fX8_remainder at h
  refine And.imp_right (fun hx => qc_V.of rfl rfl (Nat.le_of_ble_eq_true rfl) (lv := [(0, .double x0), (2, .double x2)]) rfl hx) ?_
  refine And.imp_right (fun hx => qc_dload_n (qc_at qkX8_remainder 0 rfl) rfl <| qc_dconst (qc_at qkX8_remainder 1 rfl) <| qc_dcmp (qc_at qkX8_remainder 2 rfl) <| hx) ?_
  refine qc_andC (qc_if_ge (qc_at qkX8_remainder 3 rfl)) (fun u12 => ?_) (fun u12 => ?_)
  · replace h := qc_jp u12 h
    exact And.imp_right (fun hx => qc_dload_n (qc_at qkX8_remainder 7 rfl) rfl <| qc_sub [0, 1] rfl hx) (tX8_remainder_b12 hn hR h)
  · replace h := qc_jn u12 h
    exact And.imp_right (fun hx => qc_dload_n (qc_at qkX8_remainder 4 rfl) rfl <| qc_dneg (qc_at qkX8_remainder 5 rfl) <| qc_goto (qc_at qkX8_remainder 6 rfl) <| qc_sub [0, 1] rfl hx) (tX8_remainder_b12 hn hR h)
def fX8_joined (w : qcW) (I : qTI) (L : qTL) (D : qTD) (R : qTR) (x0 : Int32) (x1 : UInt64) (x3 : UInt64) : qcO UInt64 :=
  (if x0 = 1 then (qc_gd (qc_n64 (FP.dadd x1 x3)) <| some ((FP.dadd x1 x3), I, L, D, R)) else if x0 = 2 then (qc_gd (qc_n64 (FP.dsub x1 x3)) <| some ((FP.dsub x1 x3), I, L, D, R)) else if x0 = 3 then (qc_gd (qc_n64 (FP.dmul x1 x3)) <| some ((FP.dmul x1 x3), I, L, D, R)) else if x0 = 4 then (qc_gd (qc_n64 (FP.ddiv x1 x3)) <| some ((FP.ddiv x1 x3), I, L, D, R)) else (qc_bd (fX8_remainder w I L D R x1 x3) fun r9 I9 L9 D9 R9 => some (r9, I9, L9, D9, R9)))
set_option maxRecDepth 100000 in
set_option maxHeartbeats 4000000 in
theorem tX8_joined {w : qcW} {I : qTI} {L : qTL} {D : qTD} {R : qTR} {x0 : Int32} {x1 : UInt64} {x3 : UInt64} {r : UInt64} {I' : qTI} {L' : qTL} {D' : qTD} {R' : qTR} (hn : qcNF ≤ w.1) (hR : qc_FR R) (h : fX8_joined w I L D R x0 x1 x3 = some (r, I', L', D', R')) : qc_fm qcSX (I, L, D, R) (I', L', D', R') ∧ qc_V (1) 0 0 qmX8_joined [.int x0, .double x1, .double x3] w (I, L, D, R) (qc_eq (some (.double r)) w (I', L', D', R')) := by
  unfold fX8_joined at h
  refine And.imp_right (fun hx => qc_V.of rfl rfl (Nat.le_of_ble_eq_true rfl) (lv := [(0, .int x0), (1, .double x1), (3, .double x3)]) rfl hx) ?_
  refine And.imp_right (fun hx => qc_iload_n (qc_at qkX8_joined 0 rfl) rfl <| hx) ?_
  refine qc_by (c := x0 = 1) (fun u1 => ?_) (fun u1 => ?_)
  · refine And.imp_right (fun hx => qc_tabIn (qc_at qkX8_joined 1 rfl) 0 (by rw [u1]; rfl) (by decide) rfl rfl hx) ?_
    replace h := qc_jp u1 h
    refine And.imp_right (fun hx => qc_dload_n (qc_at qkX8_joined 2 rfl) rfl <| qc_dload_n (qc_at qkX8_joined 3 rfl) rfl <| hx) ?_
    obtain ⟨g2, h⟩ := qc_gd_of h
    replace g2 := qc_n64_of g2
    obtain ⟨rfl, rfl, rfl, rfl, rfl⟩ := qc_some5 h
    exact ⟨qc_fm.rf _, qc_dadd (qc_at qkX8_joined 4 rfl) g2 <| qc_dret (qc_at qkX8_joined 5 rfl) rfl (Nat.le_refl _) (Nat.le_refl _) (qc_eq.rf _ _ _)⟩
  · replace h := qc_jn u1 h
    refine qc_by (c := x0 = 2) (fun u3 => ?_) (fun u3 => ?_)
    · refine And.imp_right (fun hx => qc_tabIn (qc_at qkX8_joined 1 rfl) 1 (by rw [u3]; rfl) (by decide) rfl rfl hx) ?_
      replace h := qc_jp u3 h
      refine And.imp_right (fun hx => qc_dload_n (qc_at qkX8_joined 6 rfl) rfl <| qc_dload_n (qc_at qkX8_joined 7 rfl) rfl <| hx) ?_
      obtain ⟨g4, h⟩ := qc_gd_of h
      replace g4 := qc_n64_of g4
      obtain ⟨rfl, rfl, rfl, rfl, rfl⟩ := qc_some5 h
      exact ⟨qc_fm.rf _, qc_dsub (qc_at qkX8_joined 8 rfl) g4 <| qc_dret (qc_at qkX8_joined 9 rfl) rfl (Nat.le_refl _) (Nat.le_refl _) (qc_eq.rf _ _ _)⟩
    · replace h := qc_jn u3 h
      refine qc_by (c := x0 = 3) (fun u5 => ?_) (fun u5 => ?_)
      · refine And.imp_right (fun hx => qc_tabIn (qc_at qkX8_joined 1 rfl) 2 (by rw [u5]; rfl) (by decide) rfl rfl hx) ?_
        replace h := qc_jp u5 h
        refine And.imp_right (fun hx => qc_dload_n (qc_at qkX8_joined 10 rfl) rfl <| qc_dload_n (qc_at qkX8_joined 11 rfl) rfl <| hx) ?_
        obtain ⟨g6, h⟩ := qc_gd_of h
        replace g6 := qc_n64_of g6
        obtain ⟨rfl, rfl, rfl, rfl, rfl⟩ := qc_some5 h
        exact ⟨qc_fm.rf _, qc_dmul (qc_at qkX8_joined 12 rfl) g6 <| qc_dret (qc_at qkX8_joined 13 rfl) rfl (Nat.le_refl _) (Nat.le_refl _) (qc_eq.rf _ _ _)⟩
      · replace h := qc_jn u5 h
        refine qc_by (c := x0 = 4) (fun u7 => ?_) (fun u7 => ?_)
        · refine And.imp_right (fun hx => qc_tabIn (qc_at qkX8_joined 1 rfl) 3 (by rw [u7]; rfl) (by decide) rfl rfl hx) ?_
          replace h := qc_jp u7 h
          refine And.imp_right (fun hx => qc_dload_n (qc_at qkX8_joined 14 rfl) rfl <| qc_dload_n (qc_at qkX8_joined 15 rfl) rfl <| hx) ?_
          obtain ⟨g8, h⟩ := qc_gd_of h
          replace g8 := qc_n64_of g8
          obtain ⟨rfl, rfl, rfl, rfl, rfl⟩ := qc_some5 h
          exact ⟨qc_fm.rf _, qc_ddiv (qc_at qkX8_joined 16 rfl) g8 <| qc_dret (qc_at qkX8_joined 17 rfl) rfl (Nat.le_refl _) (Nat.le_refl _) (qc_eq.rf _ _ _)⟩
        · replace h := qc_jn u7 h
          have v1 : ¬ Int32.toInt x0 = 1 := fun z => u1 (qc_i32 z rfl)
          have v3 : ¬ Int32.toInt x0 = 2 := fun z => u3 (qc_i32 z rfl)
          have v5 : ¬ Int32.toInt x0 = 3 := fun z => u5 (qc_i32 z rfl)
          have v7 : ¬ Int32.toInt x0 = 4 := fun z => u7 (qc_i32 z rfl)
          refine And.imp_right (fun hx => qc_tabOut (qc_at qkX8_joined 1 rfl) (by omega) rfl hx) ?_
          refine And.imp_right (fun hx => qc_dload_n (qc_at qkX8_joined 18 rfl) rfl <| qc_dload_n (qc_at qkX8_joined 19 rfl) rfl <| hx) ?_
          obtain ⟨r9, I9, L9, D9, R9, e9, h⟩ := qc_bd_of h
          have c9 := (tX8_remainder hn hR e9)
          refine qd_cSv (qc_at qkX8_joined 20 rfl) ql_8_63 qfX8_remainder c9 rfl rfl (Nat.le_of_ble_eq_true rfl) (qc_rml (by decide) (by decide)) ⟨Nat.zero_le _, Nat.zero_le _⟩ ?_
          obtain ⟨rfl, rfl, rfl, rfl, rfl⟩ := qc_some5 h
          exact ⟨qc_fm.rf _, qc_dret (qc_at qkX8_joined 21 rfl) rfl (Nat.le_refl _) (Nat.le_refl _) (qc_eq.rf _ _ _)⟩
def fX8_joinedFloats (w : qcW) (I : qTI) (L : qTL) (D : qTD) (R : qTR) (x0 : Int32) (x1 : UInt32) (x2 : UInt32) : qcO UInt64 :=
  (if x0 = 1 then (qc_gd (qc_n32 (FP.fadd x1 x2)) <| qc_gd (qc_n64 (FP.f2d (FP.fadd x1 x2))) <| some ((FP.f2d (FP.fadd x1 x2)), I, L, D, R)) else if x0 = 2 then (qc_gd (qc_n32 (FP.fsub x1 x2)) <| qc_gd (qc_n64 (FP.f2d (FP.fsub x1 x2))) <| some ((FP.f2d (FP.fsub x1 x2)), I, L, D, R)) else if x0 = 3 then (qc_gd (qc_n32 (FP.fmul x1 x2)) <| qc_gd (qc_n64 (FP.f2d (FP.fmul x1 x2))) <| some ((FP.f2d (FP.fmul x1 x2)), I, L, D, R)) else if x0 = 4 then (qc_gd (qc_n32 (FP.fdiv x1 x2)) <| qc_gd (qc_n64 (FP.f2d (FP.fdiv x1 x2))) <| some ((FP.f2d (FP.fdiv x1 x2)), I, L, D, R)) else (qc_gd (qc_n64 (FP.f2d x1)) <| qc_gd (qc_n64 (FP.f2d x2)) <| qc_bd (fX8_remainder w I L D R (FP.f2d x1) (FP.f2d x2)) fun r15 I15 L15 D15 R15 => some (r15, I15, L15, D15, R15)))
set_option maxRecDepth 100000 in
set_option maxHeartbeats 4000000 in
theorem tX8_joinedFloats {w : qcW} {I : qTI} {L : qTL} {D : qTD} {R : qTR} {x0 : Int32} {x1 : UInt32} {x2 : UInt32} {r : UInt64} {I' : qTI} {L' : qTL} {D' : qTD} {R' : qTR} (hn : qcNF ≤ w.1) (hR : qc_FR R) (h : fX8_joinedFloats w I L D R x0 x1 x2 = some (r, I', L', D', R')) : qc_fm qcSX (I, L, D, R) (I', L', D', R') ∧ qc_V (1) 0 0 qmX8_joinedFloats [.int x0, .float x1, .float x2] w (I, L, D, R) (qc_eq (some (.double r)) w (I', L', D', R')) := by
  unfold fX8_joinedFloats at h
  refine And.imp_right (fun hx => qc_V.of rfl rfl (Nat.le_of_ble_eq_true rfl) (lv := [(0, .int x0), (1, .float x1), (2, .float x2)]) rfl hx) ?_
  refine And.imp_right (fun hx => qc_iload_n (qc_at qkX8_joinedFloats 0 rfl) rfl <| hx) ?_
  refine qc_by (c := x0 = 1) (fun u1 => ?_) (fun u1 => ?_)
  · refine And.imp_right (fun hx => qc_tabIn (qc_at qkX8_joinedFloats 1 rfl) 0 (by rw [u1]; rfl) (by decide) rfl rfl hx) ?_
    replace h := qc_jp u1 h
    refine And.imp_right (fun hx => qc_fload_n (qc_at qkX8_joinedFloats 2 rfl) rfl <| qc_fload_n (qc_at qkX8_joinedFloats 3 rfl) rfl <| hx) ?_
    obtain ⟨g2, h⟩ := qc_gd_of h
    replace g2 := qc_n32_of g2
    refine And.imp_right (fun hx => qc_fadd (qc_at qkX8_joinedFloats 4 rfl) g2 <| hx) ?_
    obtain ⟨g3, h⟩ := qc_gd_of h
    replace g3 := qc_n64_of g3
    obtain ⟨rfl, rfl, rfl, rfl, rfl⟩ := qc_some5 h
    exact ⟨qc_fm.rf _, qc_f2d (qc_at qkX8_joinedFloats 5 rfl) g3 <| qc_dret (qc_at qkX8_joinedFloats 6 rfl) rfl (Nat.le_refl _) (Nat.le_refl _) (qc_eq.rf _ _ _)⟩
  · replace h := qc_jn u1 h
    refine qc_by (c := x0 = 2) (fun u4 => ?_) (fun u4 => ?_)
    · refine And.imp_right (fun hx => qc_tabIn (qc_at qkX8_joinedFloats 1 rfl) 1 (by rw [u4]; rfl) (by decide) rfl rfl hx) ?_
      replace h := qc_jp u4 h
      refine And.imp_right (fun hx => qc_fload_n (qc_at qkX8_joinedFloats 7 rfl) rfl <| qc_fload_n (qc_at qkX8_joinedFloats 8 rfl) rfl <| hx) ?_
      obtain ⟨g5, h⟩ := qc_gd_of h
      replace g5 := qc_n32_of g5
      refine And.imp_right (fun hx => qc_fsub (qc_at qkX8_joinedFloats 9 rfl) g5 <| hx) ?_
      obtain ⟨g6, h⟩ := qc_gd_of h
      replace g6 := qc_n64_of g6
      obtain ⟨rfl, rfl, rfl, rfl, rfl⟩ := qc_some5 h
      exact ⟨qc_fm.rf _, qc_f2d (qc_at qkX8_joinedFloats 10 rfl) g6 <| qc_dret (qc_at qkX8_joinedFloats 11 rfl) rfl (Nat.le_refl _) (Nat.le_refl _) (qc_eq.rf _ _ _)⟩
    · replace h := qc_jn u4 h
      refine qc_by (c := x0 = 3) (fun u7 => ?_) (fun u7 => ?_)
      · refine And.imp_right (fun hx => qc_tabIn (qc_at qkX8_joinedFloats 1 rfl) 2 (by rw [u7]; rfl) (by decide) rfl rfl hx) ?_
        replace h := qc_jp u7 h
        refine And.imp_right (fun hx => qc_fload_n (qc_at qkX8_joinedFloats 12 rfl) rfl <| qc_fload_n (qc_at qkX8_joinedFloats 13 rfl) rfl <| hx) ?_
        obtain ⟨g8, h⟩ := qc_gd_of h
        replace g8 := qc_n32_of g8
        refine And.imp_right (fun hx => qc_fmul (qc_at qkX8_joinedFloats 14 rfl) g8 <| hx) ?_
        obtain ⟨g9, h⟩ := qc_gd_of h
        replace g9 := qc_n64_of g9
        obtain ⟨rfl, rfl, rfl, rfl, rfl⟩ := qc_some5 h
        exact ⟨qc_fm.rf _, qc_f2d (qc_at qkX8_joinedFloats 15 rfl) g9 <| qc_dret (qc_at qkX8_joinedFloats 16 rfl) rfl (Nat.le_refl _) (Nat.le_refl _) (qc_eq.rf _ _ _)⟩
      · replace h := qc_jn u7 h
        refine qc_by (c := x0 = 4) (fun u10 => ?_) (fun u10 => ?_)
        · refine And.imp_right (fun hx => qc_tabIn (qc_at qkX8_joinedFloats 1 rfl) 3 (by rw [u10]; rfl) (by decide) rfl rfl hx) ?_
          replace h := qc_jp u10 h
          refine And.imp_right (fun hx => qc_fload_n (qc_at qkX8_joinedFloats 17 rfl) rfl <| qc_fload_n (qc_at qkX8_joinedFloats 18 rfl) rfl <| hx) ?_
          obtain ⟨g11, h⟩ := qc_gd_of h
          replace g11 := qc_n32_of g11
          refine And.imp_right (fun hx => qc_fdiv (qc_at qkX8_joinedFloats 19 rfl) g11 <| hx) ?_
          obtain ⟨g12, h⟩ := qc_gd_of h
          replace g12 := qc_n64_of g12
          obtain ⟨rfl, rfl, rfl, rfl, rfl⟩ := qc_some5 h
          exact ⟨qc_fm.rf _, qc_f2d (qc_at qkX8_joinedFloats 20 rfl) g12 <| qc_dret (qc_at qkX8_joinedFloats 21 rfl) rfl (Nat.le_refl _) (Nat.le_refl _) (qc_eq.rf _ _ _)⟩
        · replace h := qc_jn u10 h
          have v1 : ¬ Int32.toInt x0 = 1 := fun z => u1 (qc_i32 z rfl)
          have v4 : ¬ Int32.toInt x0 = 2 := fun z => u4 (qc_i32 z rfl)
          have v7 : ¬ Int32.toInt x0 = 3 := fun z => u7 (qc_i32 z rfl)
          have v10 : ¬ Int32.toInt x0 = 4 := fun z => u10 (qc_i32 z rfl)
          refine And.imp_right (fun hx => qc_tabOut (qc_at qkX8_joinedFloats 1 rfl) (by omega) rfl hx) ?_
          refine And.imp_right (fun hx => qc_fload_n (qc_at qkX8_joinedFloats 22 rfl) rfl <| hx) ?_
          obtain ⟨g13, h⟩ := qc_gd_of h
          replace g13 := qc_n64_of g13
          refine And.imp_right (fun hx => qc_f2d (qc_at qkX8_joinedFloats 23 rfl) g13 <| qc_fload_n (qc_at qkX8_joinedFloats 24 rfl) rfl <| hx) ?_
          obtain ⟨g14, h⟩ := qc_gd_of h
          replace g14 := qc_n64_of g14
          refine And.imp_right (fun hx => qc_f2d (qc_at qkX8_joinedFloats 25 rfl) g14 <| hx) ?_
          obtain ⟨r15, I15, L15, D15, R15, e15, h⟩ := qc_bd_of h
          have c15 := (tX8_remainder hn hR e15)
          refine qd_cSv (qc_at qkX8_joinedFloats 26 rfl) ql_8_63 qfX8_remainder c15 rfl rfl (Nat.le_of_ble_eq_true rfl) (qc_rml (by decide) (by decide)) ⟨Nat.zero_le _, Nat.zero_le _⟩ ?_
          obtain ⟨rfl, rfl, rfl, rfl, rfl⟩ := qc_some5 h
          exact ⟨qc_fm.rf _, qc_dret (qc_at qkX8_joinedFloats 27 rfl) rfl (Nat.le_refl _) (Nat.le_refl _) (qc_eq.rf _ _ _)⟩
def fX8_compared (w : qcW) (I : qTI) (L : qTL) (D : qTD) (R : qTR) (x0 : UInt64) (x2 : UInt64) : qcO Int32 :=
  (if 0 ≤ (Op.cmpValue (FP.dcmp x0 x2) .g) then (if (Op.cmpValue (FP.dcmp x0 x2) .l) ≤ 0 then (some ((0 : Int32), I, L, D, R)) else (some ((1 : Int32), I, L, D, R))) else (some ((-1 : Int32), I, L, D, R)))
set_option maxRecDepth 100000 in
set_option maxHeartbeats 4000000 in
theorem tX8_compared {w : qcW} {I : qTI} {L : qTL} {D : qTD} {R : qTR} {x0 : UInt64} {x2 : UInt64} {r : Int32} {I' : qTI} {L' : qTL} {D' : qTD} {R' : qTR} (hn : qcNF ≤ w.1) (hR : qc_FR R) (h : fX8_compared w I L D R x0 x2 = some (r, I', L', D', R')) : qc_fm qcSX (I, L, D, R) (I', L', D', R') ∧ qc_V (0) 0 0 qmX8_compared [.double x0, .double x2] w (I, L, D, R) (qc_eq (some (.int r)) w (I', L', D', R')) := by
  unfold fX8_compared at h
  refine And.imp_right (fun hx => qc_V.of rfl rfl (Nat.le_of_ble_eq_true rfl) (lv := [(0, .double x0), (2, .double x2)]) rfl hx) ?_
  refine And.imp_right (fun hx => qc_dload_n (qc_at qkX8_compared 0 rfl) rfl <| qc_dload_n (qc_at qkX8_compared 1 rfl) rfl <| qc_dcmp (qc_at qkX8_compared 2 rfl) <| hx) ?_
  refine qc_andC (qc_if_ge (qc_at qkX8_compared 3 rfl)) (fun u1 => ?_) (fun u1 => ?_)
  · replace h := qc_jp u1 h
    refine And.imp_right (fun hx => qc_dload_n (qc_at qkX8_compared 6 rfl) rfl <| qc_dload_n (qc_at qkX8_compared 7 rfl) rfl <| qc_dcmp (qc_at qkX8_compared 8 rfl) <| hx) ?_
    refine qc_andC (qc_if_le (qc_at qkX8_compared 9 rfl)) (fun u2 => ?_) (fun u2 => ?_)
    · replace h := qc_jp u2 h
      obtain ⟨rfl, rfl, rfl, rfl, rfl⟩ := qc_some5 h
      exact ⟨qc_fm.rf _, qc_iconst (qc_at qkX8_compared 12 rfl) <| qc_iret (qc_at qkX8_compared 13 rfl) rfl (Nat.le_refl _) (Nat.le_refl _) (qc_eq.rf _ _ _)⟩
    · replace h := qc_jn u2 h
      obtain ⟨rfl, rfl, rfl, rfl, rfl⟩ := qc_some5 h
      exact ⟨qc_fm.rf _, qc_iconst (qc_at qkX8_compared 10 rfl) <| qc_goto (qc_at qkX8_compared 11 rfl) <| qc_iret (qc_at qkX8_compared 13 rfl) rfl (Nat.le_refl _) (Nat.le_refl _) (qc_eq.rf _ _ _)⟩
  · replace h := qc_jn u1 h
    obtain ⟨rfl, rfl, rfl, rfl, rfl⟩ := qc_some5 h
    exact ⟨qc_fm.rf _, qc_iconst (qc_at qkX8_compared 4 rfl) <| qc_iret (qc_at qkX8_compared 5 rfl) rfl (Nat.le_refl _) (Nat.le_refl _) (qc_eq.rf _ _ _)⟩
def fX8_lesser (w : qcW) (I : qTI) (L : qTL) (D : qTD) (R : qTR) (x0 : UInt64) (x2 : UInt64) : qcO UInt64 :=
  (if (Op.cmpValue (FP.dcmp x0 x2) .l) = 0 then (qc_bd (fX8_isMinus w I L D R x0) fun r3 I3 L3 D3 R3 => if r3 = true then (some (x0, I3, L3, D3, R3)) else (some (x2, I3, L3, D3, R3))) else (if 0 ≤ (Op.cmpValue (FP.dcmp x0 x2) .g) then (some (x2, I, L, D, R)) else (some (x0, I, L, D, R))))
set_option maxRecDepth 100000 in
set_option maxHeartbeats 4000000 in
theorem tX8_lesser {w : qcW} {I : qTI} {L : qTL} {D : qTD} {R : qTR} {x0 : UInt64} {x2 : UInt64} {r : UInt64} {I' : qTI} {L' : qTL} {D' : qTD} {R' : qTR} (hn : qcNF ≤ w.1) (hR : qc_FR R) (h : fX8_lesser w I L D R x0 x2 = some (r, I', L', D', R')) : qc_fm qcSX (I, L, D, R) (I', L', D', R') ∧ qc_V (1) 0 0 qmX8_lesser [.double x0, .double x2] w (I, L, D, R) (qc_eq (some (.double r)) w (I', L', D', R')) := by
  unfold fX8_lesser at h
  refine And.imp_right (fun hx => qc_V.of rfl rfl (Nat.le_of_ble_eq_true rfl) (lv := [(0, .double x0), (2, .double x2)]) rfl hx) ?_
  refine And.imp_right (fun hx => qc_dload_n (qc_at qkX8_lesser 0 rfl) rfl <| qc_dload_n (qc_at qkX8_lesser 1 rfl) rfl <| qc_dcmp (qc_at qkX8_lesser 2 rfl) <| hx) ?_
  refine qc_andN (qc_if_ne (qc_at qkX8_lesser 3 rfl)) (fun u1 => ?_) (fun u1 => ?_)
  · replace h := qc_jn u1 h
    refine And.imp_right (fun hx => qc_dload_n (qc_at qkX8_lesser 11 rfl) rfl <| qc_dload_n (qc_at qkX8_lesser 12 rfl) rfl <| qc_dcmp (qc_at qkX8_lesser 13 rfl) <| hx) ?_
    refine qc_andC (qc_if_ge (qc_at qkX8_lesser 14 rfl)) (fun u2 => ?_) (fun u2 => ?_)
    · replace h := qc_jp u2 h
      obtain ⟨rfl, rfl, rfl, rfl, rfl⟩ := qc_some5 h
      exact ⟨qc_fm.rf _, qc_dload_n (qc_at qkX8_lesser 17 rfl) rfl <| qc_dret (qc_at qkX8_lesser 18 rfl) rfl (Nat.le_refl _) (Nat.le_refl _) (qc_eq.rf _ _ _)⟩
    · replace h := qc_jn u2 h
      obtain ⟨rfl, rfl, rfl, rfl, rfl⟩ := qc_some5 h
      exact ⟨qc_fm.rf _, qc_dload_n (qc_at qkX8_lesser 15 rfl) rfl <| qc_goto (qc_at qkX8_lesser 16 rfl) <| qc_dret (qc_at qkX8_lesser 18 rfl) rfl (Nat.le_refl _) (Nat.le_refl _) (qc_eq.rf _ _ _)⟩
  · replace h := qc_jp u1 h
    refine And.imp_right (fun hx => qc_dload_n (qc_at qkX8_lesser 4 rfl) rfl <| hx) ?_
    obtain ⟨r3, I3, L3, D3, R3, e3, h⟩ := qc_bd_of h
    have c3 := (tX8_isMinus hn hR e3)
    refine qd_cSv (qc_at qkX8_lesser 5 rfl) ql_8_25 qfX8_isMinus c3 rfl rfl (Nat.le_of_ble_eq_true rfl) (qc_rml (by decide) (by decide)) ⟨Nat.zero_le _, Nat.zero_le _⟩ ?_
    refine qc_andB (qc_ifB_eq (qc_at qkX8_lesser 6 rfl)) (fun u4 => ?_) (fun u4 => ?_)
    · replace h := qc_jf u4 h
      obtain ⟨rfl, rfl, rfl, rfl, rfl⟩ := qc_some5 h
      exact ⟨qc_fm.rf _, qc_dload_n (qc_at qkX8_lesser 9 rfl) rfl <| qc_dret (qc_at qkX8_lesser 10 rfl) rfl (Nat.le_refl _) (Nat.le_refl _) (qc_eq.rf _ _ _)⟩
    · replace h := qc_jt u4 h
      obtain ⟨rfl, rfl, rfl, rfl, rfl⟩ := qc_some5 h
      exact ⟨qc_fm.rf _, qc_dload_n (qc_at qkX8_lesser 7 rfl) rfl <| qc_goto (qc_at qkX8_lesser 8 rfl) <| qc_dret (qc_at qkX8_lesser 10 rfl) rfl (Nat.le_refl _) (Nat.le_refl _) (qc_eq.rf _ _ _)⟩
def fX8_greater (w : qcW) (I : qTI) (L : qTL) (D : qTD) (R : qTR) (x0 : UInt64) (x2 : UInt64) : qcO UInt64 :=
  (if (Op.cmpValue (FP.dcmp x0 x2) .l) = 0 then (qc_bd (fX8_isMinus w I L D R x0) fun r3 I3 L3 D3 R3 => if r3 = true then (some (x2, I3, L3, D3, R3)) else (some (x0, I3, L3, D3, R3))) else (if (Op.cmpValue (FP.dcmp x0 x2) .l) ≤ 0 then (some (x2, I, L, D, R)) else (some (x0, I, L, D, R))))
set_option maxRecDepth 100000 in
set_option maxHeartbeats 4000000 in
theorem tX8_greater {w : qcW} {I : qTI} {L : qTL} {D : qTD} {R : qTR} {x0 : UInt64} {x2 : UInt64} {r : UInt64} {I' : qTI} {L' : qTL} {D' : qTD} {R' : qTR} (hn : qcNF ≤ w.1) (hR : qc_FR R) (h : fX8_greater w I L D R x0 x2 = some (r, I', L', D', R')) : qc_fm qcSX (I, L, D, R) (I', L', D', R') ∧ qc_V (1) 0 0 qmX8_greater [.double x0, .double x2] w (I, L, D, R) (qc_eq (some (.double r)) w (I', L', D', R')) := by
  unfold fX8_greater at h
  refine And.imp_right (fun hx => qc_V.of rfl rfl (Nat.le_of_ble_eq_true rfl) (lv := [(0, .double x0), (2, .double x2)]) rfl hx) ?_
  refine And.imp_right (fun hx => qc_dload_n (qc_at qkX8_greater 0 rfl) rfl <| qc_dload_n (qc_at qkX8_greater 1 rfl) rfl <| qc_dcmp (qc_at qkX8_greater 2 rfl) <| hx) ?_
  refine qc_andN (qc_if_ne (qc_at qkX8_greater 3 rfl)) (fun u1 => ?_) (fun u1 => ?_)
  · replace h := qc_jn u1 h
    refine And.imp_right (fun hx => qc_dload_n (qc_at qkX8_greater 11 rfl) rfl <| qc_dload_n (qc_at qkX8_greater 12 rfl) rfl <| qc_dcmp (qc_at qkX8_greater 13 rfl) <| hx) ?_
    refine qc_andC (qc_if_le (qc_at qkX8_greater 14 rfl)) (fun u2 => ?_) (fun u2 => ?_)
    · replace h := qc_jp u2 h
      obtain ⟨rfl, rfl, rfl, rfl, rfl⟩ := qc_some5 h
      exact ⟨qc_fm.rf _, qc_dload_n (qc_at qkX8_greater 17 rfl) rfl <| qc_dret (qc_at qkX8_greater 18 rfl) rfl (Nat.le_refl _) (Nat.le_refl _) (qc_eq.rf _ _ _)⟩
    · replace h := qc_jn u2 h
      obtain ⟨rfl, rfl, rfl, rfl, rfl⟩ := qc_some5 h
      exact ⟨qc_fm.rf _, qc_dload_n (qc_at qkX8_greater 15 rfl) rfl <| qc_goto (qc_at qkX8_greater 16 rfl) <| qc_dret (qc_at qkX8_greater 18 rfl) rfl (Nat.le_refl _) (Nat.le_refl _) (qc_eq.rf _ _ _)⟩
  · replace h := qc_jp u1 h
    refine And.imp_right (fun hx => qc_dload_n (qc_at qkX8_greater 4 rfl) rfl <| hx) ?_
    obtain ⟨r3, I3, L3, D3, R3, e3, h⟩ := qc_bd_of h
    have c3 := (tX8_isMinus hn hR e3)
    refine qd_cSv (qc_at qkX8_greater 5 rfl) ql_8_25 qfX8_isMinus c3 rfl rfl (Nat.le_of_ble_eq_true rfl) (qc_rml (by decide) (by decide)) ⟨Nat.zero_le _, Nat.zero_le _⟩ ?_
    refine qc_andB (qc_ifB_eq (qc_at qkX8_greater 6 rfl)) (fun u4 => ?_) (fun u4 => ?_)
    · replace h := qc_jf u4 h
      obtain ⟨rfl, rfl, rfl, rfl, rfl⟩ := qc_some5 h
      exact ⟨qc_fm.rf _, qc_dload_n (qc_at qkX8_greater 9 rfl) rfl <| qc_dret (qc_at qkX8_greater 10 rfl) rfl (Nat.le_refl _) (Nat.le_refl _) (qc_eq.rf _ _ _)⟩
    · replace h := qc_jt u4 h
      obtain ⟨rfl, rfl, rfl, rfl, rfl⟩ := qc_some5 h
      exact ⟨qc_fm.rf _, qc_dload_n (qc_at qkX8_greater 7 rfl) rfl <| qc_goto (qc_at qkX8_greater 8 rfl) <| qc_dret (qc_at qkX8_greater 10 rfl) rfl (Nat.le_refl _) (Nat.le_refl _) (qc_eq.rf _ _ _)⟩
def fX8_signOf (w : qcW) (I : qTI) (L : qTL) (D : qTD) (R : qTR) (x0 : UInt64) : qcO UInt64 :=
  (if (Op.cmpValue (FP.dcmp x0 (0 : UInt64)) .l) = 0 then (some (x0, I, L, D, R)) else (if 0 ≤ (Op.cmpValue (FP.dcmp x0 (0 : UInt64)) .g) then (some ((4607182418800017408 : UInt64), I, L, D, R)) else (some ((13830554455654793216 : UInt64), I, L, D, R))))
set_option maxRecDepth 100000 in
set_option maxHeartbeats 4000000 in
theorem tX8_signOf {w : qcW} {I : qTI} {L : qTL} {D : qTD} {R : qTR} {x0 : UInt64} {r : UInt64} {I' : qTI} {L' : qTL} {D' : qTD} {R' : qTR} (hn : qcNF ≤ w.1) (hR : qc_FR R) (h : fX8_signOf w I L D R x0 = some (r, I', L', D', R')) : qc_fm qcSX (I, L, D, R) (I', L', D', R') ∧ qc_V (0) 0 0 qmX8_signOf [.double x0] w (I, L, D, R) (qc_eq (some (.double r)) w (I', L', D', R')) := by
  unfold fX8_signOf at h
  refine And.imp_right (fun hx => qc_V.of rfl rfl (Nat.le_of_ble_eq_true rfl) (lv := [(0, .double x0)]) rfl hx) ?_
  refine And.imp_right (fun hx => qc_dload_n (qc_at qkX8_signOf 0 rfl) rfl <| qc_dconst (qc_at qkX8_signOf 1 rfl) <| qc_dcmp (qc_at qkX8_signOf 2 rfl) <| hx) ?_
  refine qc_andN (qc_if_ne (qc_at qkX8_signOf 3 rfl)) (fun u1 => ?_) (fun u1 => ?_)
  · replace h := qc_jn u1 h
    refine And.imp_right (fun hx => qc_dload_n (qc_at qkX8_signOf 6 rfl) rfl <| qc_dconst (qc_at qkX8_signOf 7 rfl) <| qc_dcmp (qc_at qkX8_signOf 8 rfl) <| hx) ?_
    refine qc_andC (qc_if_ge (qc_at qkX8_signOf 9 rfl)) (fun u2 => ?_) (fun u2 => ?_)
    · replace h := qc_jp u2 h
      obtain ⟨rfl, rfl, rfl, rfl, rfl⟩ := qc_some5 h
      exact ⟨qc_fm.rf _, qc_dconst (qc_at qkX8_signOf 12 rfl) <| qc_dret (qc_at qkX8_signOf 13 rfl) rfl (Nat.le_refl _) (Nat.le_refl _) (qc_eq.rf _ _ _)⟩
    · replace h := qc_jn u2 h
      obtain ⟨rfl, rfl, rfl, rfl, rfl⟩ := qc_some5 h
      exact ⟨qc_fm.rf _, qc_ldc2d (qc_at qkX8_signOf 10 rfl) <| qc_goto (qc_at qkX8_signOf 11 rfl) <| qc_dret (qc_at qkX8_signOf 13 rfl) rfl (Nat.le_refl _) (Nat.le_refl _) (qc_eq.rf _ _ _)⟩
  · replace h := qc_jp u1 h
    obtain ⟨rfl, rfl, rfl, rfl, rfl⟩ := qc_some5 h
    exact ⟨qc_fm.rf _, qc_dload_n (qc_at qkX8_signOf 4 rfl) rfl <| qc_dret (qc_at qkX8_signOf 5 rfl) rfl (Nat.le_refl _) (Nat.le_refl _) (qc_eq.rf _ _ _)⟩
def fX8_nearest_b39 (w : qcW) (I : qTI) (L : qTL) (D : qTD) (R : qTR) (x0 : UInt64) (x2 : UInt64) : qcO UInt64 :=
  (if 0 ≤ (Op.cmpValue (FP.dcmp x0 (0 : UInt64)) .g) then (some (x2, I, L, D, R)) else (some ((FP.dneg x2), I, L, D, R)))
set_option maxRecDepth 100000 in
set_option maxHeartbeats 4000000 in
theorem tX8_nearest_b39 {w : qcW} {I : qTI} {L : qTL} {D : qTD} {R : qTR} {x0 : UInt64} {x2 : UInt64} {r : UInt64} {I' : qTI} {L' : qTL} {D' : qTD} {R' : qTR} (hn : qcNF ≤ w.1) (hR : qc_FR R) (h : fX8_nearest_b39 w I L D R x0 x2 = some (r, I', L', D', R')) : qc_fm qcSX (I, L, D, R) (I', L', D', R') ∧ qc_X (qc_rm (0) 0 0) qmX8_nearest (qc_QM 0 0 (qc_eq (some (.double r)) w (I', L', D', R'))) 0 0 w (39, [(0, .double x0), (2, .double x2)], [], I, L, D, R) := by
  unfold fX8_nearest_b39 at h
  refine And.imp_right (fun hx => qc_dload_n (qc_at qkX8_nearest 25 rfl) rfl <| qc_dconst (qc_at qkX8_nearest 26 rfl) <| qc_dcmp (qc_at qkX8_nearest 27 rfl) <| hx) ?_
  refine qc_andC (qc_if_ge (qc_at qkX8_nearest 28 rfl)) (fun u1 => ?_) (fun u1 => ?_)
  · replace h := qc_jp u1 h
    obtain ⟨rfl, rfl, rfl, rfl, rfl⟩ := qc_some5 h
    exact ⟨qc_fm.rf _, qc_dload_n (qc_at qkX8_nearest 32 rfl) rfl <| qc_dret (qc_at qkX8_nearest 33 rfl) rfl (Nat.le_refl _) (Nat.le_refl _) (qc_eq.rf _ _ _)⟩
  · replace h := qc_jn u1 h
    obtain ⟨rfl, rfl, rfl, rfl, rfl⟩ := qc_some5 h
    exact ⟨qc_fm.rf _, qc_dload_n (qc_at qkX8_nearest 29 rfl) rfl <| qc_dneg (qc_at qkX8_nearest 30 rfl) <| qc_goto (qc_at qkX8_nearest 31 rfl) <| qc_dret (qc_at qkX8_nearest 33 rfl) rfl (Nat.le_refl _) (Nat.le_refl _) (qc_eq.rf _ _ _)⟩
def fX8_nearest_b20 (w : qcW) (I : qTI) (L : qTL) (D : qTD) (R : qTR) (x0 : UInt64) (s0 : UInt64) : qcO UInt64 :=
  (if 0 ≤ (Op.cmpValue (FP.dcmp s0 (4841369599423283200 : UInt64)) .g) then (fX8_nearest_b39 w I L D R x0 s0) else (qc_gd (qc_n64 (FP.dadd s0 (4841369599423283200 : UInt64))) <| qc_gd (qc_n64 (FP.dsub (FP.dadd s0 (4841369599423283200 : UInt64)) (4841369599423283200 : UInt64))) <| fX8_nearest_b39 w I L D R x0 (FP.dsub (FP.dadd s0 (4841369599423283200 : UInt64)) (4841369599423283200 : UInt64))))
set_option maxRecDepth 100000 in
set_option maxHeartbeats 4000000 in
theorem tX8_nearest_b20 {w : qcW} {I : qTI} {L : qTL} {D : qTD} {R : qTR} {x0 : UInt64} {s0 : UInt64} {r : UInt64} {I' : qTI} {L' : qTL} {D' : qTD} {R' : qTR} (hn : qcNF ≤ w.1) (hR : qc_FR R) (h : fX8_nearest_b20 w I L D R x0 s0 = some (r, I', L', D', R')) : qc_fm qcSX (I, L, D, R) (I', L', D', R') ∧ qc_X (qc_rm (0) 0 0) qmX8_nearest (qc_QM 0 0 (qc_eq (some (.double r)) w (I', L', D', R'))) 0 0 w (20, [(0, .double x0)], [.double s0], I, L, D, R) := by
  unfold fX8_nearest_b20 at h
  refine And.imp_right (fun hx => qc_dstore_n (lv' := [(2, _), (0, _)]) (qc_at qkX8_nearest 14 rfl) rfl rfl <| qc_dload_n (qc_at qkX8_nearest 15 rfl) rfl <| qc_ldc2d (qc_at qkX8_nearest 16 rfl) <| qc_dcmp (qc_at qkX8_nearest 17 rfl) <| hx) ?_
  refine qc_andC (qc_if_ge (qc_at qkX8_nearest 18 rfl)) (fun u2 => ?_) (fun u2 => ?_)
  · replace h := qc_jp u2 h
    exact And.imp_right (fun hx => qc_sub [1, 0] rfl hx) (tX8_nearest_b39 hn hR h)
  · replace h := qc_jn u2 h
    refine And.imp_right (fun hx => qc_dload_n (qc_at qkX8_nearest 19 rfl) rfl <| qc_ldc2d (qc_at qkX8_nearest 20 rfl) <| hx) ?_
    obtain ⟨g3, h⟩ := qc_gd_of h
    replace g3 := qc_n64_of g3
    refine And.imp_right (fun hx => qc_dadd (qc_at qkX8_nearest 21 rfl) g3 <| qc_ldc2d (qc_at qkX8_nearest 22 rfl) <| hx) ?_
    obtain ⟨g4, h⟩ := qc_gd_of h
    replace g4 := qc_n64_of g4
    exact And.imp_right (fun hx => qc_dsub (qc_at qkX8_nearest 23 rfl) g4 <| qc_dstore_n (lv' := [(2, _), (0, _)]) (qc_at qkX8_nearest 24 rfl) rfl rfl <| qc_sub [1, 0] rfl hx) (tX8_nearest_b39 hn hR h)
def fX8_nearest (w : qcW) (I : qTI) (L : qTL) (D : qTD) (R : qTR) (x0 : UInt64) : qcO UInt64 :=
  (if (Op.cmpValue (FP.dcmp x0 (0 : UInt64)) .l) = 0 then (some (x0, I, L, D, R)) else (if 0 ≤ (Op.cmpValue (FP.dcmp x0 (0 : UInt64)) .g) then (fX8_nearest_b20 w I L D R x0 x0) else (fX8_nearest_b20 w I L D R x0 (FP.dneg x0))))
set_option maxRecDepth 100000 in
set_option maxHeartbeats 4000000 in
theorem tX8_nearest {w : qcW} {I : qTI} {L : qTL} {D : qTD} {R : qTR} {x0 : UInt64} {r : UInt64} {I' : qTI} {L' : qTL} {D' : qTD} {R' : qTR} (hn : qcNF ≤ w.1) (hR : qc_FR R) (h : fX8_nearest w I L D R x0 = some (r, I', L', D', R')) : qc_fm qcSX (I, L, D, R) (I', L', D', R') ∧ qc_V (0) 0 0 qmX8_nearest [.double x0] w (I, L, D, R) (qc_eq (some (.double r)) w (I', L', D', R')) := by
  unfold fX8_nearest at h
  refine And.imp_right (fun hx => qc_V.of rfl rfl (Nat.le_of_ble_eq_true rfl) (lv := [(0, .double x0)]) rfl hx) ?_
  refine And.imp_right (fun hx => qc_dload_n (qc_at qkX8_nearest 0 rfl) rfl <| qc_dconst (qc_at qkX8_nearest 1 rfl) <| qc_dcmp (qc_at qkX8_nearest 2 rfl) <| hx) ?_
  refine qc_andN (qc_if_ne (qc_at qkX8_nearest 3 rfl)) (fun u5 => ?_) (fun u5 => ?_)
  · replace h := qc_jn u5 h
    refine And.imp_right (fun hx => qc_dload_n (qc_at qkX8_nearest 6 rfl) rfl <| qc_dconst (qc_at qkX8_nearest 7 rfl) <| qc_dcmp (qc_at qkX8_nearest 8 rfl) <| hx) ?_
    refine qc_andC (qc_if_ge (qc_at qkX8_nearest 9 rfl)) (fun u6 => ?_) (fun u6 => ?_)
    · replace h := qc_jp u6 h
      exact And.imp_right (fun hx => qc_dload_n (qc_at qkX8_nearest 13 rfl) rfl <| qc_sub [0] rfl hx) (tX8_nearest_b20 hn hR h)
    · replace h := qc_jn u6 h
      exact And.imp_right (fun hx => qc_dload_n (qc_at qkX8_nearest 10 rfl) rfl <| qc_dneg (qc_at qkX8_nearest 11 rfl) <| qc_goto (qc_at qkX8_nearest 12 rfl) <| qc_sub [0] rfl hx) (tX8_nearest_b20 hn hR h)
  · replace h := qc_jp u5 h
    obtain ⟨rfl, rfl, rfl, rfl, rfl⟩ := qc_some5 h
    exact ⟨qc_fm.rf _, qc_dload_n (qc_at qkX8_nearest 4 rfl) rfl <| qc_dret (qc_at qkX8_nearest 5 rfl) rfl (Nat.le_refl _) (Nat.le_refl _) (qc_eq.rf _ _ _)⟩
def fX8_floor (w : qcW) (I : qTI) (L : qTL) (D : qTD) (R : qTR) (x0 : UInt64) : qcO UInt64 :=
  (qc_bd (fX8_nearest w I L D R x0) fun r1 I1 L1 D1 R1 => if (Op.cmpValue (FP.dcmp r1 x0) .l) ≤ 0 then (some (r1, I1, L1, D1, R1)) else (qc_gd (qc_n64 (FP.dsub r1 (4607182418800017408 : UInt64))) <| some ((FP.dsub r1 (4607182418800017408 : UInt64)), I1, L1, D1, R1)))
set_option maxRecDepth 100000 in
set_option maxHeartbeats 4000000 in
theorem tX8_floor {w : qcW} {I : qTI} {L : qTL} {D : qTD} {R : qTR} {x0 : UInt64} {r : UInt64} {I' : qTI} {L' : qTL} {D' : qTD} {R' : qTR} (hn : qcNF ≤ w.1) (hR : qc_FR R) (h : fX8_floor w I L D R x0 = some (r, I', L', D', R')) : qc_fm qcSX (I, L, D, R) (I', L', D', R') ∧ qc_V (1) 0 0 qmX8_floor [.double x0] w (I, L, D, R) (qc_eq (some (.double r)) w (I', L', D', R')) := by
  unfold fX8_floor at h
  refine And.imp_right (fun hx => qc_V.of rfl rfl (Nat.le_of_ble_eq_true rfl) (lv := [(0, .double x0)]) rfl hx) ?_
  refine And.imp_right (fun hx => qc_dload_n (qc_at qkX8_floor 0 rfl) rfl <| hx) ?_
  obtain ⟨r1, I1, L1, D1, R1, e1, h⟩ := qc_bd_of h
  have c1 := (tX8_nearest hn hR e1)
  refine qd_cSv (qc_at qkX8_floor 1 rfl) ql_8_73 qfX8_nearest c1 rfl rfl (Nat.le_of_ble_eq_true rfl) (qc_rml (by decide) (by decide)) ⟨Nat.zero_le _, Nat.zero_le _⟩ ?_
  refine And.imp_right (fun hx => qc_dstore_n (lv' := [(2, _), (0, _)]) (qc_at qkX8_floor 2 rfl) rfl rfl <| qc_dload_n (qc_at qkX8_floor 3 rfl) rfl <| qc_dload_n (qc_at qkX8_floor 4 rfl) rfl <| qc_dcmp (qc_at qkX8_floor 5 rfl) <| hx) ?_
  refine qc_andC (qc_if_le (qc_at qkX8_floor 6 rfl)) (fun u2 => ?_) (fun u2 => ?_)
  · replace h := qc_jp u2 h
    obtain ⟨rfl, rfl, rfl, rfl, rfl⟩ := qc_some5 h
    exact ⟨qc_fm.rf _, qc_dload_n (qc_at qkX8_floor 11 rfl) rfl <| qc_dret (qc_at qkX8_floor 12 rfl) rfl (Nat.le_refl _) (Nat.le_refl _) (qc_eq.rf _ _ _)⟩
  · replace h := qc_jn u2 h
    refine And.imp_right (fun hx => qc_dload_n (qc_at qkX8_floor 7 rfl) rfl <| qc_dconst (qc_at qkX8_floor 8 rfl) <| hx) ?_
    obtain ⟨g3, h⟩ := qc_gd_of h
    replace g3 := qc_n64_of g3
    obtain ⟨rfl, rfl, rfl, rfl, rfl⟩ := qc_some5 h
    exact ⟨qc_fm.rf _, qc_dsub (qc_at qkX8_floor 9 rfl) g3 <| qc_goto (qc_at qkX8_floor 10 rfl) <| qc_dret (qc_at qkX8_floor 12 rfl) rfl (Nat.le_refl _) (Nat.le_refl _) (qc_eq.rf _ _ _)⟩
def fX1_isColumn (w : qcW) (I : qTI) (L : qTL) (D : qTD) (R : qTR) (x0 : Int32) : qcO Bool :=
  (if x0 < 0 then (some (false, I, L, D, R)) else (if (10 : Int32) ≤ x0 then (some (false, I, L, D, R)) else (some (true, I, L, D, R))))
set_option maxRecDepth 100000 in
set_option maxHeartbeats 4000000 in
theorem tX1_isColumn {w : qcW} {I : qTI} {L : qTL} {D : qTD} {R : qTR} {x0 : Int32} {r : Bool} {I' : qTI} {L' : qTL} {D' : qTD} {R' : qTR} (hn : qcNF ≤ w.1) (hR : qc_FR R) (h : fX1_isColumn w I L D R x0 = some (r, I', L', D', R')) : qc_fm qcSX (I, L, D, R) (I', L', D', R') ∧ qc_V (0) 0 0 qmX1_isColumn [.int x0] w (I, L, D, R) (qc_eq (some (.int (qc_b r))) w (I', L', D', R')) := by
  unfold fX1_isColumn at h
  refine And.imp_right (fun hx => qc_V.of rfl rfl (Nat.le_of_ble_eq_true rfl) (lv := [(0, .int x0)]) rfl hx) ?_
  refine And.imp_right (fun hx => qc_iload_n (qc_at qkX1_isColumn 0 rfl) rfl <| hx) ?_
  refine qc_andC (qc_if_lt (qc_at qkX1_isColumn 1 rfl)) (fun u1 => ?_) (fun u1 => ?_)
  · replace h := qc_jp u1 h
    obtain ⟨rfl, rfl, rfl, rfl, rfl⟩ := qc_some5 h
    exact ⟨qc_fm.rf _, qc_iconst (qc_at qkX1_isColumn 7 rfl) <| qc_zret (qc_at qkX1_isColumn 8 rfl) rfl (Or.inl rfl) (Nat.le_refl _) (Nat.le_refl _) ⟨rfl, rfl, rfl⟩⟩
  · replace h := qc_jn u1 h
    refine And.imp_right (fun hx => qc_iload_n (qc_at qkX1_isColumn 2 rfl) rfl <| qc_bipush (qc_at qkX1_isColumn 3 rfl) <| hx) ?_
    refine qc_andC (qc_icmp_ge (qc_at qkX1_isColumn 4 rfl)) (fun u2 => ?_) (fun u2 => ?_)
    · replace h := qc_jp u2 h
      obtain ⟨rfl, rfl, rfl, rfl, rfl⟩ := qc_some5 h
      exact ⟨qc_fm.rf _, qc_iconst (qc_at qkX1_isColumn 7 rfl) <| qc_zret (qc_at qkX1_isColumn 8 rfl) rfl (Or.inl rfl) (Nat.le_refl _) (Nat.le_refl _) ⟨rfl, rfl, rfl⟩⟩
    · replace h := qc_jn u2 h
      obtain ⟨rfl, rfl, rfl, rfl, rfl⟩ := qc_some5 h
      exact ⟨qc_fm.rf _, qc_iconst (qc_at qkX1_isColumn 5 rfl) <| qc_goto (qc_at qkX1_isColumn 6 rfl) <| qc_zret (qc_at qkX1_isColumn 8 rfl) rfl (Or.inr rfl) (Nat.le_refl _) (Nat.le_refl _) ⟨rfl, rfl, rfl⟩⟩
def fX1_isLane (w : qcW) (I : qTI) (L : qTL) (D : qTD) (R : qTR) (x0 : Int32) : qcO Bool :=
  (if x0 < 0 then (some (false, I, L, D, R)) else (if (8 : Int32) ≤ x0 then (some (false, I, L, D, R)) else (some (true, I, L, D, R))))
set_option maxRecDepth 100000 in
set_option maxHeartbeats 4000000 in
theorem tX1_isLane {w : qcW} {I : qTI} {L : qTL} {D : qTD} {R : qTR} {x0 : Int32} {r : Bool} {I' : qTI} {L' : qTL} {D' : qTD} {R' : qTR} (hn : qcNF ≤ w.1) (hR : qc_FR R) (h : fX1_isLane w I L D R x0 = some (r, I', L', D', R')) : qc_fm qcSX (I, L, D, R) (I', L', D', R') ∧ qc_V (0) 0 0 qmX1_isLane [.int x0] w (I, L, D, R) (qc_eq (some (.int (qc_b r))) w (I', L', D', R')) := by
  unfold fX1_isLane at h
  refine And.imp_right (fun hx => qc_V.of rfl rfl (Nat.le_of_ble_eq_true rfl) (lv := [(0, .int x0)]) rfl hx) ?_
  refine And.imp_right (fun hx => qc_iload_n (qc_at qkX1_isLane 0 rfl) rfl <| hx) ?_
  refine qc_andC (qc_if_lt (qc_at qkX1_isLane 1 rfl)) (fun u1 => ?_) (fun u1 => ?_)
  · replace h := qc_jp u1 h
    obtain ⟨rfl, rfl, rfl, rfl, rfl⟩ := qc_some5 h
    exact ⟨qc_fm.rf _, qc_iconst (qc_at qkX1_isLane 7 rfl) <| qc_zret (qc_at qkX1_isLane 8 rfl) rfl (Or.inl rfl) (Nat.le_refl _) (Nat.le_refl _) ⟨rfl, rfl, rfl⟩⟩
  · replace h := qc_jn u1 h
    refine And.imp_right (fun hx => qc_iload_n (qc_at qkX1_isLane 2 rfl) rfl <| qc_bipush (qc_at qkX1_isLane 3 rfl) <| hx) ?_
    refine qc_andC (qc_icmp_ge (qc_at qkX1_isLane 4 rfl)) (fun u2 => ?_) (fun u2 => ?_)
    · replace h := qc_jp u2 h
      obtain ⟨rfl, rfl, rfl, rfl, rfl⟩ := qc_some5 h
      exact ⟨qc_fm.rf _, qc_iconst (qc_at qkX1_isLane 7 rfl) <| qc_zret (qc_at qkX1_isLane 8 rfl) rfl (Or.inl rfl) (Nat.le_refl _) (Nat.le_refl _) ⟨rfl, rfl, rfl⟩⟩
    · replace h := qc_jn u2 h
      obtain ⟨rfl, rfl, rfl, rfl, rfl⟩ := qc_some5 h
      exact ⟨qc_fm.rf _, qc_iconst (qc_at qkX1_isLane 5 rfl) <| qc_goto (qc_at qkX1_isLane 6 rfl) <| qc_zret (qc_at qkX1_isLane 8 rfl) rfl (Or.inr rfl) (Nat.le_refl _) (Nat.le_refl _) ⟨rfl, rfl, rfl⟩⟩
def fX1_kindOf (w : qcW) (I : qTI) (L : qTL) (D : qTD) (R : qTR) (x0 : Int32) : qcO Int32 :=
  (if x0 = 0 then (some ((0 : Int32), I, L, D, R)) else (if (4 : Int32) < x0 then (some (((x0 - (4 : Int32)) + (1 : Int32)), I, L, D, R)) else (some ((1 : Int32), I, L, D, R))))
set_option maxRecDepth 100000 in
set_option maxHeartbeats 4000000 in
theorem tX1_kindOf {w : qcW} {I : qTI} {L : qTL} {D : qTD} {R : qTR} {x0 : Int32} {r : Int32} {I' : qTI} {L' : qTL} {D' : qTD} {R' : qTR} (hn : qcNF ≤ w.1) (hR : qc_FR R) (h : fX1_kindOf w I L D R x0 = some (r, I', L', D', R')) : qc_fm qcSX (I, L, D, R) (I', L', D', R') ∧ qc_V (0) 0 0 qmX1_kindOf [.int x0] w (I, L, D, R) (qc_eq (some (.int r)) w (I', L', D', R')) := by
  unfold fX1_kindOf at h
  refine And.imp_right (fun hx => qc_V.of rfl rfl (Nat.le_of_ble_eq_true rfl) (lv := [(0, .int x0)]) rfl hx) ?_
  refine And.imp_right (fun hx => qc_iload_n (qc_at qkX1_kindOf 0 rfl) rfl <| hx) ?_
  refine qc_andN (qc_if_ne (qc_at qkX1_kindOf 1 rfl)) (fun u1 => ?_) (fun u1 => ?_)
  · replace h := qc_jn u1 h
    refine And.imp_right (fun hx => qc_iload_n (qc_at qkX1_kindOf 4 rfl) rfl <| qc_iconst (qc_at qkX1_kindOf 5 rfl) <| hx) ?_
    refine qc_andC (qc_icmp_gt (qc_at qkX1_kindOf 6 rfl)) (fun u2 => ?_) (fun u2 => ?_)
    · replace h := qc_jp u2 h
      obtain ⟨rfl, rfl, rfl, rfl, rfl⟩ := qc_some5 h
      exact ⟨qc_fm.rf _, qc_iload_n (qc_at qkX1_kindOf 9 rfl) rfl <| qc_iconst (qc_at qkX1_kindOf 10 rfl) <| qc_isub (qc_at qkX1_kindOf 11 rfl) <| qc_iconst (qc_at qkX1_kindOf 12 rfl) <| qc_iadd (qc_at qkX1_kindOf 13 rfl) <| qc_iret (qc_at qkX1_kindOf 14 rfl) rfl (Nat.le_refl _) (Nat.le_refl _) (qc_eq.rf _ _ _)⟩
    · replace h := qc_jn u2 h
      obtain ⟨rfl, rfl, rfl, rfl, rfl⟩ := qc_some5 h
      exact ⟨qc_fm.rf _, qc_iconst (qc_at qkX1_kindOf 7 rfl) <| qc_goto (qc_at qkX1_kindOf 8 rfl) <| qc_iret (qc_at qkX1_kindOf 14 rfl) rfl (Nat.le_refl _) (Nat.le_refl _) (qc_eq.rf _ _ _)⟩
  · replace h := qc_jp u1 h
    obtain ⟨rfl, rfl, rfl, rfl, rfl⟩ := qc_some5 h
    exact ⟨qc_fm.rf _, qc_iconst (qc_at qkX1_kindOf 2 rfl) <| qc_iret (qc_at qkX1_kindOf 3 rfl) rfl (Nat.le_refl _) (Nat.le_refl _) (qc_eq.rf _ _ _)⟩
def fX1_laneOf (w : qcW) (I : qTI) (L : qTL) (D : qTD) (R : qTR) (x1 : Int32) : qcO Int32 :=
  (qc_bd (fX1_isColumn w I L D R x1) fun r1 I1 L1 D1 R1 => if r1 = true then (qc_gd (qc_inb x1 10) <| if (I1 258 (Int32.toNatClampNeg x1)) = (-1 : Int32) then (some ((-1 : Int32), I1, L1, D1, R1)) else (qc_gd (qc_inb x1 10) <| qc_gd (qc_inb (I1 258 (Int32.toNatClampNeg x1)) 10) <| some ((I1 259 (Int32.toNatClampNeg (I1 258 (Int32.toNatClampNeg x1)))), I1, L1, D1, R1))) else (some ((-1 : Int32), I1, L1, D1, R1)))
set_option maxRecDepth 100000 in
set_option maxHeartbeats 4000000 in
theorem tX1_laneOf {w : qcW} {I : qTI} {L : qTL} {D : qTD} {R : qTR} {x1 : Int32} {r : Int32} {I' : qTI} {L' : qTL} {D' : qTD} {R' : qTR} (hn : qcNF ≤ w.1) (hR : qc_FR R) (h : fX1_laneOf w I L D R x1 = some (r, I', L', D', R')) : qc_fm qcSX (I, L, D, R) (I', L', D', R') ∧ qc_V (1) 0 0 qmX1_laneOf [.ref 257, .int x1] w (I, L, D, R) (qc_eq (some (.int r)) w (I', L', D', R')) := by
  unfold fX1_laneOf at h
  refine And.imp_right (fun hx => qc_V.of rfl rfl (Nat.le_of_ble_eq_true rfl) (lv := [(0, .ref 257), (1, .int x1)]) rfl hx) ?_
  refine And.imp_right (fun hx => qc_iload_n (qc_at qkX1_laneOf 0 rfl) rfl <| hx) ?_
  obtain ⟨r1, I1, L1, D1, R1, e1, h⟩ := qc_bd_of h
  have c1 := (tX1_isColumn hn hR e1)
  refine qd_cSv (qc_at qkX1_laneOf 1 rfl) ql_1_39 qfX1_isColumn c1 rfl rfl (Nat.le_of_ble_eq_true rfl) (qc_rml (by decide) (by decide)) ⟨Nat.zero_le _, Nat.zero_le _⟩ ?_
  refine qc_andB (qc_ifB_eq (qc_at qkX1_laneOf 2 rfl)) (fun u2 => ?_) (fun u2 => ?_)
  · replace h := qc_jf u2 h
    obtain ⟨rfl, rfl, rfl, rfl, rfl⟩ := qc_some5 h
    exact ⟨qc_fm.rf _, qc_iconst (qc_at qkX1_laneOf 17 rfl) <| qc_iret (qc_at qkX1_laneOf 18 rfl) rfl (Nat.le_refl _) (Nat.le_refl _) (qc_eq.rf _ _ _)⟩
  · replace h := qc_jt u2 h
    refine And.imp_right (fun hx => qc_aload_n (qc_at qkX1_laneOf 3 rfl) rfl <| qc_gR (qc_at qkX1_laneOf 4 rfl) hn rfl (qfr_257_0 (c1.1.1 hR)) rfl <| qc_iload_n (qc_at qkX1_laneOf 5 rfl) rfl <| hx) ?_
    obtain ⟨g3, h⟩ := qc_gd_of h
    refine And.imp_right (fun hx => qc_iald 10 (qc_at qkX1_laneOf 6 rfl) hn rfl (qc_inb_in g3) <| qc_iconst (qc_at qkX1_laneOf 7 rfl) <| hx) ?_
    refine qc_andC (qc_icmp_eq (qc_at qkX1_laneOf 8 rfl)) (fun u4 => ?_) (fun u4 => ?_)
    · replace h := qc_jp u4 h
      obtain ⟨rfl, rfl, rfl, rfl, rfl⟩ := qc_some5 h
      exact ⟨qc_fm.rf _, qc_iconst (qc_at qkX1_laneOf 17 rfl) <| qc_iret (qc_at qkX1_laneOf 18 rfl) rfl (Nat.le_refl _) (Nat.le_refl _) (qc_eq.rf _ _ _)⟩
    · replace h := qc_jn u4 h
      refine And.imp_right (fun hx => qc_aload_n (qc_at qkX1_laneOf 9 rfl) rfl <| qc_gR (qc_at qkX1_laneOf 10 rfl) hn rfl (qfr_257_1 (c1.1.1 hR)) rfl <| qc_aload_n (qc_at qkX1_laneOf 11 rfl) rfl <| qc_gR (qc_at qkX1_laneOf 12 rfl) hn rfl (qfr_257_0 (c1.1.1 hR)) rfl <| qc_iload_n (qc_at qkX1_laneOf 13 rfl) rfl <| hx) ?_
      obtain ⟨g5, h⟩ := qc_gd_of h
      refine And.imp_right (fun hx => qc_iald 10 (qc_at qkX1_laneOf 14 rfl) hn rfl (qc_inb_in g5) <| hx) ?_
      obtain ⟨g6, h⟩ := qc_gd_of h
      obtain ⟨rfl, rfl, rfl, rfl, rfl⟩ := qc_some5 h
      exact ⟨qc_fm.rf _, qc_iald 10 (qc_at qkX1_laneOf 15 rfl) hn rfl (qc_inb_in g6) <| qc_goto (qc_at qkX1_laneOf 16 rfl) <| qc_iret (qc_at qkX1_laneOf 18 rfl) rfl (Nat.le_refl _) (Nat.le_refl _) (qc_eq.rf _ _ _)⟩
def fX1_sizeOf (w : qcW) (I : qTI) (L : qTL) (D : qTD) (R : qTR) (x1 : Int32) : qcO Int32 :=
  (qc_bd (fX1_isColumn w I L D R x1) fun r1 I1 L1 D1 R1 => if r1 = true then (qc_gd (qc_inb x1 10) <| if (I1 258 (Int32.toNatClampNeg x1)) = (-1 : Int32) then (some ((-1 : Int32), I1, L1, D1, R1)) else (qc_gd (qc_inb x1 10) <| qc_gd (qc_inb (I1 258 (Int32.toNatClampNeg x1)) 10) <| some ((I1 260 (Int32.toNatClampNeg (I1 258 (Int32.toNatClampNeg x1)))), I1, L1, D1, R1))) else (some ((-1 : Int32), I1, L1, D1, R1)))
set_option maxRecDepth 100000 in
set_option maxHeartbeats 4000000 in
theorem tX1_sizeOf {w : qcW} {I : qTI} {L : qTL} {D : qTD} {R : qTR} {x1 : Int32} {r : Int32} {I' : qTI} {L' : qTL} {D' : qTD} {R' : qTR} (hn : qcNF ≤ w.1) (hR : qc_FR R) (h : fX1_sizeOf w I L D R x1 = some (r, I', L', D', R')) : qc_fm qcSX (I, L, D, R) (I', L', D', R') ∧ qc_V (1) 0 0 qmX1_sizeOf [.ref 257, .int x1] w (I, L, D, R) (qc_eq (some (.int r)) w (I', L', D', R')) := by
  unfold fX1_sizeOf at h
  refine And.imp_right (fun hx => qc_V.of rfl rfl (Nat.le_of_ble_eq_true rfl) (lv := [(0, .ref 257), (1, .int x1)]) rfl hx) ?_
  refine And.imp_right (fun hx => qc_iload_n (qc_at qkX1_sizeOf 0 rfl) rfl <| hx) ?_
  obtain ⟨r1, I1, L1, D1, R1, e1, h⟩ := qc_bd_of h
  have c1 := (tX1_isColumn hn hR e1)
  refine qd_cSv (qc_at qkX1_sizeOf 1 rfl) ql_1_39 qfX1_isColumn c1 rfl rfl (Nat.le_of_ble_eq_true rfl) (qc_rml (by decide) (by decide)) ⟨Nat.zero_le _, Nat.zero_le _⟩ ?_
  refine qc_andB (qc_ifB_eq (qc_at qkX1_sizeOf 2 rfl)) (fun u2 => ?_) (fun u2 => ?_)
  · replace h := qc_jf u2 h
    obtain ⟨rfl, rfl, rfl, rfl, rfl⟩ := qc_some5 h
    exact ⟨qc_fm.rf _, qc_iconst (qc_at qkX1_sizeOf 17 rfl) <| qc_iret (qc_at qkX1_sizeOf 18 rfl) rfl (Nat.le_refl _) (Nat.le_refl _) (qc_eq.rf _ _ _)⟩
  · replace h := qc_jt u2 h
    refine And.imp_right (fun hx => qc_aload_n (qc_at qkX1_sizeOf 3 rfl) rfl <| qc_gR (qc_at qkX1_sizeOf 4 rfl) hn rfl (qfr_257_0 (c1.1.1 hR)) rfl <| qc_iload_n (qc_at qkX1_sizeOf 5 rfl) rfl <| hx) ?_
    obtain ⟨g3, h⟩ := qc_gd_of h
    refine And.imp_right (fun hx => qc_iald 10 (qc_at qkX1_sizeOf 6 rfl) hn rfl (qc_inb_in g3) <| qc_iconst (qc_at qkX1_sizeOf 7 rfl) <| hx) ?_
    refine qc_andC (qc_icmp_eq (qc_at qkX1_sizeOf 8 rfl)) (fun u4 => ?_) (fun u4 => ?_)
    · replace h := qc_jp u4 h
      obtain ⟨rfl, rfl, rfl, rfl, rfl⟩ := qc_some5 h
      exact ⟨qc_fm.rf _, qc_iconst (qc_at qkX1_sizeOf 17 rfl) <| qc_iret (qc_at qkX1_sizeOf 18 rfl) rfl (Nat.le_refl _) (Nat.le_refl _) (qc_eq.rf _ _ _)⟩
    · replace h := qc_jn u4 h
      refine And.imp_right (fun hx => qc_aload_n (qc_at qkX1_sizeOf 9 rfl) rfl <| qc_gR (qc_at qkX1_sizeOf 10 rfl) hn rfl (qfr_257_2 (c1.1.1 hR)) rfl <| qc_aload_n (qc_at qkX1_sizeOf 11 rfl) rfl <| qc_gR (qc_at qkX1_sizeOf 12 rfl) hn rfl (qfr_257_0 (c1.1.1 hR)) rfl <| qc_iload_n (qc_at qkX1_sizeOf 13 rfl) rfl <| hx) ?_
      obtain ⟨g5, h⟩ := qc_gd_of h
      refine And.imp_right (fun hx => qc_iald 10 (qc_at qkX1_sizeOf 14 rfl) hn rfl (qc_inb_in g5) <| hx) ?_
      obtain ⟨g6, h⟩ := qc_gd_of h
      obtain ⟨rfl, rfl, rfl, rfl, rfl⟩ := qc_some5 h
      exact ⟨qc_fm.rf _, qc_iald 10 (qc_at qkX1_sizeOf 15 rfl) hn rfl (qc_inb_in g6) <| qc_goto (qc_at qkX1_sizeOf 16 rfl) <| qc_iret (qc_at qkX1_sizeOf 18 rfl) rfl (Nat.le_refl _) (Nat.le_refl _) (qc_eq.rf _ _ _)⟩
