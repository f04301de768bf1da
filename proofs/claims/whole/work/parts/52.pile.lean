def fX6_empty (w : qcW) (I : qTI) (L : qTL) (D : qTD) (R : qTR) : qcO Unit :=
  (some ((), (qc_u I 287 2 (0 : Int32)), L, D, R))
set_option maxRecDepth 100000 in
set_option maxHeartbeats 4000000 in
theorem tX6_empty {w : qcW} {I : qTI} {L : qTL} {D : qTD} {R : qTR} {r : Unit} {I' : qTI} {L' : qTL} {D' : qTD} {R' : qTR} (hn : qcNF ≤ w.1) (hR : qc_FR R) (h : fX6_empty w I L D R = some (r, I', L', D', R')) : qc_fm qcSX (I, L, D, R) (I', L', D', R') ∧ qc_V (0) 0 0 qmX6_empty [.ref 287] w (I, L, D, R) (qc_eq none w (I', L', D', R')) := by
  unfold fX6_empty at h
  refine And.imp_right (fun hx => qc_V.of rfl rfl (Nat.le_of_ble_eq_true rfl) (lv := [(0, .ref 287)]) rfl hx) ?_
  refine And.imp_right (fun hx => qc_aload_n (qc_at qkX6_empty 0 rfl) rfl <| qc_iconst (qc_at qkX6_empty 1 rfl) <| hx) (qd_pI (qc_at qkX6_empty 2 rfl) hn rfl rfl ?_)
  cases h
  exact ⟨qc_fm.rf _, qc_vret (qc_at qkX6_empty 3 rfl) rfl (Nat.le_refl _) (Nat.le_refl _) (qc_eq.rf _ _ _)⟩
def fX6_lay (w : qcW) (I : qTI) (L : qTL) (D : qTD) (R : qTR) (x1 : Int64) : qcO Unit :=
  (if (24 : Int32) ≤ (I 287 2) then (some ((), I, L, D, R)) else (qc_gd (qc_inb (I 287 2) 24) <| some ((), (qc_u I 287 2 ((I 287 2) + (1 : Int32))), (qc_u L 288 (Int32.toNatClampNeg (I 287 2)) x1), D, R)))
set_option maxRecDepth 100000 in
set_option maxHeartbeats 4000000 in
theorem tX6_lay {w : qcW} {I : qTI} {L : qTL} {D : qTD} {R : qTR} {x1 : Int64} {r : Unit} {I' : qTI} {L' : qTL} {D' : qTD} {R' : qTR} (hn : qcNF ≤ w.1) (hR : qc_FR R) (h : fX6_lay w I L D R x1 = some (r, I', L', D', R')) : qc_fm qcSX (I, L, D, R) (I', L', D', R') ∧ qc_V (0) 0 0 qmX6_lay [.ref 287, .long x1] w (I, L, D, R) (qc_eq none w (I', L', D', R')) := by
  unfold fX6_lay at h
  refine And.imp_right (fun hx => qc_V.of rfl rfl (Nat.le_of_ble_eq_true rfl) (lv := [(0, .ref 287), (1, .long x1)]) rfl hx) ?_
  refine And.imp_right (fun hx => qc_aload_n (qc_at qkX6_lay 0 rfl) rfl <| qc_gI (qc_at qkX6_lay 1 rfl) hn rfl <| qc_bipush (qc_at qkX6_lay 2 rfl) <| hx) ?_
  refine qc_andC (qc_icmp_ge (qc_at qkX6_lay 3 rfl)) (fun u1 => ?_) (fun u1 => ?_)
  · replace h := qc_jp u1 h
    cases h
    exact ⟨qc_fm.rf _, qc_vret (qc_at qkX6_lay 16 rfl) rfl (Nat.le_refl _) (Nat.le_refl _) (qc_eq.rf _ _ _)⟩
  · replace h := qc_jn u1 h
    refine And.imp_right (fun hx => qc_aload_n (qc_at qkX6_lay 4 rfl) rfl <| qc_gR (qc_at qkX6_lay 5 rfl) hn rfl (qfr_287_0 hR) rfl <| qc_aload_n (qc_at qkX6_lay 6 rfl) rfl <| qc_gI (qc_at qkX6_lay 7 rfl) hn rfl <| qc_lload_n (qc_at qkX6_lay 8 rfl) rfl <| hx) ?_
    obtain ⟨g2, h⟩ := qc_gd_of h
    refine qd_last 24 (qc_at qkX6_lay 9 rfl) hn rfl (qc_inb_in g2) rfl ?_
    refine And.imp_right (fun hx => qc_aload_n (qc_at qkX6_lay 10 rfl) rfl <| qc_dup (qc_at qkX6_lay 11 rfl) rfl <| qc_gI (qc_at qkX6_lay 12 rfl) hn rfl <| qc_iconst (qc_at qkX6_lay 13 rfl) <| qc_iadd (qc_at qkX6_lay 14 rfl) <| hx) (qd_pI (qc_at qkX6_lay 15 rfl) hn rfl rfl ?_)
    cases h
    exact ⟨qc_fm.rf _, qc_vret (qc_at qkX6_lay 16 rfl) rfl (Nat.le_refl _) (Nat.le_refl _) (qc_eq.rf _ _ _)⟩
def fX6_layReal (w : qcW) (I : qTI) (L : qTL) (D : qTD) (R : qTR) (x1 : UInt64) : qcO Unit :=
  (if (24 : Int32) ≤ (I 287 2) then (some ((), I, L, D, R)) else (qc_gd (qc_inb (I 287 2) 24) <| some ((), (qc_u I 287 2 ((I 287 2) + (1 : Int32))), L, (qc_u D 289 (Int32.toNatClampNeg (I 287 2)) x1), R)))
set_option maxRecDepth 100000 in
set_option maxHeartbeats 4000000 in
theorem tX6_layReal {w : qcW} {I : qTI} {L : qTL} {D : qTD} {R : qTR} {x1 : UInt64} {r : Unit} {I' : qTI} {L' : qTL} {D' : qTD} {R' : qTR} (hn : qcNF ≤ w.1) (hR : qc_FR R) (h : fX6_layReal w I L D R x1 = some (r, I', L', D', R')) : qc_fm qcSX (I, L, D, R) (I', L', D', R') ∧ qc_V (0) 0 0 qmX6_layReal [.ref 287, .double x1] w (I, L, D, R) (qc_eq none w (I', L', D', R')) := by
  unfold fX6_layReal at h
  refine And.imp_right (fun hx => qc_V.of rfl rfl (Nat.le_of_ble_eq_true rfl) (lv := [(0, .ref 287), (1, .double x1)]) rfl hx) ?_
  refine And.imp_right (fun hx => qc_aload_n (qc_at qkX6_layReal 0 rfl) rfl <| qc_gI (qc_at qkX6_layReal 1 rfl) hn rfl <| qc_bipush (qc_at qkX6_layReal 2 rfl) <| hx) ?_
  refine qc_andC (qc_icmp_ge (qc_at qkX6_layReal 3 rfl)) (fun u1 => ?_) (fun u1 => ?_)
  · replace h := qc_jp u1 h
    cases h
    exact ⟨qc_fm.rf _, qc_vret (qc_at qkX6_layReal 16 rfl) rfl (Nat.le_refl _) (Nat.le_refl _) (qc_eq.rf _ _ _)⟩
  · replace h := qc_jn u1 h
    refine And.imp_right (fun hx => qc_aload_n (qc_at qkX6_layReal 4 rfl) rfl <| qc_gR (qc_at qkX6_layReal 5 rfl) hn rfl (qfr_287_1 hR) rfl <| qc_aload_n (qc_at qkX6_layReal 6 rfl) rfl <| qc_gI (qc_at qkX6_layReal 7 rfl) hn rfl <| qc_dload_n (qc_at qkX6_layReal 8 rfl) rfl <| hx) ?_
    obtain ⟨g2, h⟩ := qc_gd_of h
    refine qd_dast 24 (qc_at qkX6_layReal 9 rfl) hn rfl (qc_inb_in g2) rfl ?_
    refine And.imp_right (fun hx => qc_aload_n (qc_at qkX6_layReal 10 rfl) rfl <| qc_dup (qc_at qkX6_layReal 11 rfl) rfl <| qc_gI (qc_at qkX6_layReal 12 rfl) hn rfl <| qc_iconst (qc_at qkX6_layReal 13 rfl) <| qc_iadd (qc_at qkX6_layReal 14 rfl) <| hx) (qd_pI (qc_at qkX6_layReal 15 rfl) hn rfl rfl ?_)
    cases h
    exact ⟨qc_fm.rf _, qc_vret (qc_at qkX6_layReal 16 rfl) rfl (Nat.le_refl _) (Nat.le_refl _) (qc_eq.rf _ _ _)⟩
def fX6_take (w : qcW) (I : qTI) (L : qTL) (D : qTD) (R : qTR) : qcO Int64 :=
  (if (I 287 2) ≤ 0 then (some ((0 : Int64), I, L, D, R)) else (qc_gd (qc_inb ((qc_u I 287 2 ((I 287 2) - (1 : Int32))) 287 2) 24) <| some ((L 288 (Int32.toNatClampNeg ((qc_u I 287 2 ((I 287 2) - (1 : Int32))) 287 2))), (qc_u I 287 2 ((I 287 2) - (1 : Int32))), L, D, R)))
set_option maxRecDepth 100000 in
set_option maxHeartbeats 4000000 in
theorem tX6_take {w : qcW} {I : qTI} {L : qTL} {D : qTD} {R : qTR} {r : Int64} {I' : qTI} {L' : qTL} {D' : qTD} {R' : qTR} (hn : qcNF ≤ w.1) (hR : qc_FR R) (h : fX6_take w I L D R = some (r, I', L', D', R')) : qc_fm qcSX (I, L, D, R) (I', L', D', R') ∧ qc_V (0) 0 0 qmX6_take [.ref 287] w (I, L, D, R) (qc_eq (some (.long r)) w (I', L', D', R')) := by
  unfold fX6_take at h
  refine And.imp_right (fun hx => qc_V.of rfl rfl (Nat.le_of_ble_eq_true rfl) (lv := [(0, .ref 287)]) rfl hx) ?_
  refine And.imp_right (fun hx => qc_aload_n (qc_at qkX6_take 0 rfl) rfl <| qc_gI (qc_at qkX6_take 1 rfl) hn rfl <| hx) ?_
  refine qc_andC (qc_if_le (qc_at qkX6_take 2 rfl)) (fun u1 => ?_) (fun u1 => ?_)
  · replace h := qc_jp u1 h
    cases h
    exact ⟨qc_fm.rf _, qc_lconst (qc_at qkX6_take 15 rfl) <| qc_lret (qc_at qkX6_take 16 rfl) rfl (Nat.le_refl _) (Nat.le_refl _) (qc_eq.rf _ _ _)⟩
  · replace h := qc_jn u1 h
    refine And.imp_right (fun hx => qc_aload_n (qc_at qkX6_take 3 rfl) rfl <| qc_dup (qc_at qkX6_take 4 rfl) rfl <| qc_gI (qc_at qkX6_take 5 rfl) hn rfl <| qc_iconst (qc_at qkX6_take 6 rfl) <| qc_isub (qc_at qkX6_take 7 rfl) <| hx) (qd_pI (qc_at qkX6_take 8 rfl) hn rfl rfl ?_)
    refine And.imp_right (fun hx => qc_aload_n (qc_at qkX6_take 9 rfl) rfl <| qc_gR (qc_at qkX6_take 10 rfl) hn rfl (qfr_287_0 hR) rfl <| qc_aload_n (qc_at qkX6_take 11 rfl) rfl <| qc_gI (qc_at qkX6_take 12 rfl) hn rfl <| hx) ?_
    obtain ⟨g2, h⟩ := qc_gd_of h
    cases h
    exact ⟨qc_fm.rf _, qc_lald 24 (qc_at qkX6_take 13 rfl) hn rfl (qc_inb_in g2) <| qc_lret (qc_at qkX6_take 14 rfl) rfl (Nat.le_refl _) (Nat.le_refl _) (qc_eq.rf _ _ _)⟩
def fX6_takeReal (w : qcW) (I : qTI) (L : qTL) (D : qTD) (R : qTR) : qcO UInt64 :=
  (if (I 287 2) ≤ 0 then (some ((0 : UInt64), I, L, D, R)) else (qc_gd (qc_inb ((qc_u I 287 2 ((I 287 2) - (1 : Int32))) 287 2) 24) <| some ((D 289 (Int32.toNatClampNeg ((qc_u I 287 2 ((I 287 2) - (1 : Int32))) 287 2))), (qc_u I 287 2 ((I 287 2) - (1 : Int32))), L, D, R)))
set_option maxRecDepth 100000 in
set_option maxHeartbeats 4000000 in
theorem tX6_takeReal {w : qcW} {I : qTI} {L : qTL} {D : qTD} {R : qTR} {r : UInt64} {I' : qTI} {L' : qTL} {D' : qTD} {R' : qTR} (hn : qcNF ≤ w.1) (hR : qc_FR R) (h : fX6_takeReal w I L D R = some (r, I', L', D', R')) : qc_fm qcSX (I, L, D, R) (I', L', D', R') ∧ qc_V (0) 0 0 qmX6_takeReal [.ref 287] w (I, L, D, R) (qc_eq (some (.double r)) w (I', L', D', R')) := by
  unfold fX6_takeReal at h
  refine And.imp_right (fun hx => qc_V.of rfl rfl (Nat.le_of_ble_eq_true rfl) (lv := [(0, .ref 287)]) rfl hx) ?_
  refine And.imp_right (fun hx => qc_aload_n (qc_at qkX6_takeReal 0 rfl) rfl <| qc_gI (qc_at qkX6_takeReal 1 rfl) hn rfl <| hx) ?_
  refine qc_andC (qc_if_le (qc_at qkX6_takeReal 2 rfl)) (fun u1 => ?_) (fun u1 => ?_)
  · replace h := qc_jp u1 h
    cases h
    exact ⟨qc_fm.rf _, qc_dconst (qc_at qkX6_takeReal 15 rfl) <| qc_dret (qc_at qkX6_takeReal 16 rfl) rfl (Nat.le_refl _) (Nat.le_refl _) (qc_eq.rf _ _ _)⟩
  · replace h := qc_jn u1 h
    refine And.imp_right (fun hx => qc_aload_n (qc_at qkX6_takeReal 3 rfl) rfl <| qc_dup (qc_at qkX6_takeReal 4 rfl) rfl <| qc_gI (qc_at qkX6_takeReal 5 rfl) hn rfl <| qc_iconst (qc_at qkX6_takeReal 6 rfl) <| qc_isub (qc_at qkX6_takeReal 7 rfl) <| hx) (qd_pI (qc_at qkX6_takeReal 8 rfl) hn rfl rfl ?_)
    refine And.imp_right (fun hx => qc_aload_n (qc_at qkX6_takeReal 9 rfl) rfl <| qc_gR (qc_at qkX6_takeReal 10 rfl) hn rfl (qfr_287_1 hR) rfl <| qc_aload_n (qc_at qkX6_takeReal 11 rfl) rfl <| qc_gI (qc_at qkX6_takeReal 12 rfl) hn rfl <| hx) ?_
    obtain ⟨g2, h⟩ := qc_gd_of h
    cases h
    exact ⟨qc_fm.rf _, qc_dald 24 (qc_at qkX6_takeReal 13 rfl) hn rfl (qc_inb_in g2) <| qc_dret (qc_at qkX6_takeReal 14 rfl) rfl (Nat.le_refl _) (Nat.le_refl _) (qc_eq.rf _ _ _)⟩
