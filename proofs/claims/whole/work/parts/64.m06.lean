def fX12_turns (w : qcW) (I : qTI) (L : qTL) (D : qTD) (R : qTR) (x1 : Int32) (x2 : Int32) : qcO Unit :=
  (if x1 = (13 : Int32) then (qc_gd (qc_inb ((I 291 67) - (1 : Int32)) 32) <| qc_gd (qc_inb ((I 291 67) - (1 : Int32)) 32) <| some ((), I, (qc_u L 328 (Int32.toNatClampNeg ((I 291 67) - (1 : Int32))) ((L 328 (Int32.toNatClampNeg ((I 291 67) - (1 : Int32)))) ^^^ (-1 : Int64))), D, R)) else (if (3 : Int32) ≤ x2 then (qc_gd (qc_inb ((I 291 67) - (1 : Int32)) 32) <| qc_gd (qc_inb ((I 291 67) - (1 : Int32)) 32) <| some ((), I, L, (qc_u D 329 (Int32.toNatClampNeg ((I 291 67) - (1 : Int32))) (FP.dneg (D 329 (Int32.toNatClampNeg ((I 291 67) - (1 : Int32)))))), R)) else (if x2 = (1 : Int32) then (qc_gd (qc_inb ((I 291 67) - (1 : Int32)) 32) <| qc_gd (qc_inb ((I 291 67) - (1 : Int32)) 32) <| some ((), I, (qc_u L 328 (Int32.toNatClampNeg ((I 291 67) - (1 : Int32))) (Int32.toInt64 (Int64.toInt32 (-(L 328 (Int32.toNatClampNeg ((I 291 67) - (1 : Int32)))))))), D, R)) else (qc_gd (qc_inb ((I 291 67) - (1 : Int32)) 32) <| qc_gd (qc_inb ((I 291 67) - (1 : Int32)) 32) <| some ((), I, (qc_u L 328 (Int32.toNatClampNeg ((I 291 67) - (1 : Int32))) (-(L 328 (Int32.toNatClampNeg ((I 291 67) - (1 : Int32)))))), D, R)))))
set_option maxRecDepth 100000 in
set_option maxHeartbeats 4000000 in
theorem tX12_turns {w : qcW} {I : qTI} {L : qTL} {D : qTD} {R : qTR} {x1 : Int32} {x2 : Int32} {r : Unit} {I' : qTI} {L' : qTL} {D' : qTD} {R' : qTR} (hn : qcNF ≤ w.1) (hR : qc_FR R) (h : fX12_turns w I L D R x1 x2 = some (r, I', L', D', R')) : qc_fm qcSM (I, L, D, R) (I', L', D', R') ∧ qc_V (0) 0 0 qmX12_turns [.ref 291, .int x1, .int x2] w (I, L, D, R) (qc_eq none w (I', L', D', R')) := by
  unfold fX12_turns at h
  refine And.imp_right (fun hx => qc_V.of rfl rfl (Nat.le_of_ble_eq_true rfl) (lv := [(0, .ref 291), (1, .int x1), (2, .int x2)]) rfl hx) ?_
  refine And.imp_right (fun hx => qc_aload_n (qc_at qkX12_turns 0 rfl) rfl <| qc_gI (qc_at qkX12_turns 1 rfl) hn rfl <| qc_iconst (qc_at qkX12_turns 2 rfl) <| qc_isub (qc_at qkX12_turns 3 rfl) <| qc_istore_n (lv' := [(3, _), (0, _), (1, _), (2, _)]) (qc_at qkX12_turns 4 rfl) rfl rfl <| qc_iload_n (qc_at qkX12_turns 5 rfl) rfl <| qc_bipush (qc_at qkX12_turns 6 rfl) <| hx) ?_
  refine qc_andN (qc_icmp_ne (qc_at qkX12_turns 7 rfl)) (fun u1 => ?_) (fun u1 => ?_)
  · replace h := qc_jn u1 h
    refine And.imp_right (fun hx => qc_iload_n (qc_at qkX12_turns 19 rfl) rfl <| qc_iconst (qc_at qkX12_turns 20 rfl) <| hx) ?_
    refine qc_andC (qc_icmp_ge (qc_at qkX12_turns 21 rfl)) (fun u2 => ?_) (fun u2 => ?_)
    · replace h := qc_jp u2 h
      refine And.imp_right (fun hx => qc_aload_n (qc_at qkX12_turns 43 rfl) rfl <| qc_gR (qc_at qkX12_turns 44 rfl) hn rfl (qfr_291_66 hR) rfl <| qc_iload_n (qc_at qkX12_turns 45 rfl) rfl <| qc_aload_n (qc_at qkX12_turns 46 rfl) rfl <| qc_gR (qc_at qkX12_turns 47 rfl) hn rfl (qfr_291_66 hR) rfl <| qc_iload_n (qc_at qkX12_turns 48 rfl) rfl <| hx) ?_
      obtain ⟨g3, h⟩ := qc_gd_of h
      refine And.imp_right (fun hx => qc_dald 32 (qc_at qkX12_turns 49 rfl) hn rfl (qc_inb_in g3) <| qc_dneg (qc_at qkX12_turns 50 rfl) <| hx) ?_
      obtain ⟨g4, h⟩ := qc_gd_of h
      refine qd_dast 32 (qc_at qkX12_turns 51 rfl) hn rfl (qc_inb_in g4) rfl ?_
      obtain ⟨rfl, rfl, rfl, rfl, rfl⟩ := qc_some5 h
      exact ⟨qc_fm.rf _, qc_vret (qc_at qkX12_turns 52 rfl) rfl (Nat.le_refl _) (Nat.le_refl _) (qc_eq.rf _ _ _)⟩
    · replace h := qc_jn u2 h
      refine And.imp_right (fun hx => qc_aload_n (qc_at qkX12_turns 22 rfl) rfl <| qc_gR (qc_at qkX12_turns 23 rfl) hn rfl (qfr_291_65 hR) rfl <| qc_iload_n (qc_at qkX12_turns 24 rfl) rfl <| qc_iload_n (qc_at qkX12_turns 25 rfl) rfl <| qc_iconst (qc_at qkX12_turns 26 rfl) <| hx) ?_
      refine qc_andN (qc_icmp_ne (qc_at qkX12_turns 27 rfl)) (fun u5 => ?_) (fun u5 => ?_)
      · replace h := qc_jn u5 h
        refine And.imp_right (fun hx => qc_aload_n (qc_at qkX12_turns 36 rfl) rfl <| qc_gR (qc_at qkX12_turns 37 rfl) hn rfl (qfr_291_65 hR) rfl <| qc_iload_n (qc_at qkX12_turns 38 rfl) rfl <| hx) ?_
        obtain ⟨g6, h⟩ := qc_gd_of h
        refine And.imp_right (fun hx => qc_lald 32 (qc_at qkX12_turns 39 rfl) hn rfl (qc_inb_in g6) <| qc_lneg (qc_at qkX12_turns 40 rfl) <| hx) ?_
        obtain ⟨g7, h⟩ := qc_gd_of h
        refine qd_last 32 (qc_at qkX12_turns 41 rfl) hn rfl (qc_inb_in g7) rfl ?_
        obtain ⟨rfl, rfl, rfl, rfl, rfl⟩ := qc_some5 h
        exact ⟨qc_fm.rf _, qc_goto (qc_at qkX12_turns 42 rfl) <| qc_vret (qc_at qkX12_turns 52 rfl) rfl (Nat.le_refl _) (Nat.le_refl _) (qc_eq.rf _ _ _)⟩
      · replace h := qc_jp u5 h
        refine And.imp_right (fun hx => qc_aload_n (qc_at qkX12_turns 28 rfl) rfl <| qc_gR (qc_at qkX12_turns 29 rfl) hn rfl (qfr_291_65 hR) rfl <| qc_iload_n (qc_at qkX12_turns 30 rfl) rfl <| hx) ?_
        obtain ⟨g8, h⟩ := qc_gd_of h
        refine And.imp_right (fun hx => qc_lald 32 (qc_at qkX12_turns 31 rfl) hn rfl (qc_inb_in g8) <| qc_lneg (qc_at qkX12_turns 32 rfl) <| qc_l2i (qc_at qkX12_turns 33 rfl) <| qc_i2l (qc_at qkX12_turns 34 rfl) <| qc_goto (qc_at qkX12_turns 35 rfl) <| hx) ?_
        obtain ⟨g9, h⟩ := qc_gd_of h
        refine qd_last 32 (qc_at qkX12_turns 41 rfl) hn rfl (qc_inb_in g9) rfl ?_
        obtain ⟨rfl, rfl, rfl, rfl, rfl⟩ := qc_some5 h
        exact ⟨qc_fm.rf _, qc_goto (qc_at qkX12_turns 42 rfl) <| qc_vret (qc_at qkX12_turns 52 rfl) rfl (Nat.le_refl _) (Nat.le_refl _) (qc_eq.rf _ _ _)⟩
  · replace h := qc_jp u1 h
    refine And.imp_right (fun hx => qc_aload_n (qc_at qkX12_turns 8 rfl) rfl <| qc_gR (qc_at qkX12_turns 9 rfl) hn rfl (qfr_291_65 hR) rfl <| qc_iload_n (qc_at qkX12_turns 10 rfl) rfl <| qc_aload_n (qc_at qkX12_turns 11 rfl) rfl <| qc_gR (qc_at qkX12_turns 12 rfl) hn rfl (qfr_291_65 hR) rfl <| qc_iload_n (qc_at qkX12_turns 13 rfl) rfl <| hx) ?_
    obtain ⟨g10, h⟩ := qc_gd_of h
    refine And.imp_right (fun hx => qc_lald 32 (qc_at qkX12_turns 14 rfl) hn rfl (qc_inb_in g10) <| qc_ldc2l (qc_at qkX12_turns 15 rfl) <| qc_lxor (qc_at qkX12_turns 16 rfl) <| hx) ?_
    obtain ⟨g11, h⟩ := qc_gd_of h
    refine qd_last 32 (qc_at qkX12_turns 17 rfl) hn rfl (qc_inb_in g11) rfl ?_
    obtain ⟨rfl, rfl, rfl, rfl, rfl⟩ := qc_some5 h
    exact ⟨qc_fm.rf _, qc_goto (qc_at qkX12_turns 18 rfl) <| qc_vret (qc_at qkX12_turns 52 rfl) rfl (Nat.le_refl _) (Nat.le_refl _) (qc_eq.rf _ _ _)⟩
def fX12_functions_b297 (w : qcW) (I : qTI) (L : qTL) (D : qTD) (R : qTR) (x3 : Int32) (s0 : Int32) : qcO Unit :=
  (if s0 = 0 then (qc_gd (qc_inb (x3 + (1 : Int32)) 32) <| qc_gd (qc_inb x3 32) <| some ((), I, (qc_u L 328 (Int32.toNatClampNeg x3) (L 328 (Int32.toNatClampNeg (x3 + (1 : Int32))))), D, R)) else (qc_gd (qc_inb x3 32) <| qc_gd (qc_inb x3 32) <| some ((), I, (qc_u L 328 (Int32.toNatClampNeg x3) (L 328 (Int32.toNatClampNeg x3))), D, R)))
set_option maxRecDepth 100000 in
set_option maxHeartbeats 4000000 in
theorem tX12_functions_b297 {w : qcW} {I : qTI} {L : qTL} {D : qTD} {R : qTR} {x3 : Int32} {s0 : Int32} {r : Unit} {I' : qTI} {L' : qTL} {D' : qTD} {R' : qTR} (hn : qcNF ≤ w.1) (hR : qc_FR R) (h : fX12_functions_b297 w I L D R x3 s0 = some (r, I', L', D', R')) : qc_fm qcSM (I, L, D, R) (I', L', D', R') ∧ qc_X (qc_rm (3) 0 0) qmX12_functions (qc_QM 0 0 (qc_eq none w (I', L', D', R'))) 0 0 w (297, [(0, .ref 291), (3, .int x3)], [.int s0], I, L, D, R) := by
  unfold fX12_functions_b297 at h
  refine And.imp_right (fun hx => qc_istore (lv' := [(4, _), (0, _), (3, _)]) (qc_at qkX12_functions 156 rfl) rfl rfl <| qc_aload_n (qc_at qkX12_functions 157 rfl) rfl <| qc_gR (qc_at qkX12_functions 158 rfl) hn rfl (qfr_291_65 hR) rfl <| qc_iload_n (qc_at qkX12_functions 159 rfl) rfl <| qc_iload (qc_at qkX12_functions 160 rfl) rfl <| hx) ?_
  refine qc_andC (qc_if_eq (qc_at qkX12_functions 161 rfl)) (fun u1 => ?_) (fun u1 => ?_)
  · replace h := qc_jp u1 h
    refine And.imp_right (fun hx => qc_aload_n (qc_at qkX12_functions 167 rfl) rfl <| qc_gR (qc_at qkX12_functions 168 rfl) hn rfl (qfr_291_65 hR) rfl <| qc_iload_n (qc_at qkX12_functions 169 rfl) rfl <| qc_iconst (qc_at qkX12_functions 170 rfl) <| qc_iadd (qc_at qkX12_functions 171 rfl) <| hx) ?_
    obtain ⟨g2, h⟩ := qc_gd_of h
    refine And.imp_right (fun hx => qc_lald 32 (qc_at qkX12_functions 172 rfl) hn rfl (qc_inb_in g2) <| hx) ?_
    obtain ⟨g3, h⟩ := qc_gd_of h
    refine qd_last 32 (qc_at qkX12_functions 173 rfl) hn rfl (qc_inb_in g3) rfl ?_
    obtain ⟨rfl, rfl, rfl, rfl, rfl⟩ := qc_some5 h
    exact ⟨qc_fm.rf _, qc_goto (qc_at qkX12_functions 174 rfl) <| qc_vret (qc_at qkX12_functions 205 rfl) rfl (Nat.le_refl _) (Nat.le_refl _) (qc_eq.rf _ _ _)⟩
  · replace h := qc_jn u1 h
    refine And.imp_right (fun hx => qc_aload_n (qc_at qkX12_functions 162 rfl) rfl <| qc_gR (qc_at qkX12_functions 163 rfl) hn rfl (qfr_291_65 hR) rfl <| qc_iload_n (qc_at qkX12_functions 164 rfl) rfl <| hx) ?_
    obtain ⟨g4, h⟩ := qc_gd_of h
    refine And.imp_right (fun hx => qc_lald 32 (qc_at qkX12_functions 165 rfl) hn rfl (qc_inb_in g4) <| qc_goto (qc_at qkX12_functions 166 rfl) <| hx) ?_
    obtain ⟨g5, h⟩ := qc_gd_of h
    refine qd_last 32 (qc_at qkX12_functions 173 rfl) hn rfl (qc_inb_in g5) rfl ?_
    obtain ⟨rfl, rfl, rfl, rfl, rfl⟩ := qc_some5 h
    exact ⟨qc_fm.rf _, qc_goto (qc_at qkX12_functions 174 rfl) <| qc_vret (qc_at qkX12_functions 205 rfl) rfl (Nat.le_refl _) (Nat.le_refl _) (qc_eq.rf _ _ _)⟩
def fX12_functions (w : qcW) (I : qTI) (L : qTL) (D : qTD) (R : qTR) (x1 : Int32) (x2 : Int32) : qcO Unit :=
  (if x1 = 170 then (if (3 : Int32) ≤ x2 then (qc_gd (qc_inb ((I 291 67) - (1 : Int32)) 32) <| qc_bd (fX12_without w I L D R (D 329 (Int32.toNatClampNeg ((I 291 67) - (1 : Int32))))) fun r9 I9 L9 D9 R9 => qc_gd (qc_inb ((I 291 67) - (1 : Int32)) 32) <| some ((), I9, L9, (qc_u D9 329 (Int32.toNatClampNeg ((I 291 67) - (1 : Int32))) r9), R9)) else (qc_gd (qc_inb ((I 291 67) - (1 : Int32)) 32) <| if 0 ≤ (lg_cmp (L 328 (Int32.toNatClampNeg ((I 291 67) - (1 : Int32)))) (0 : Int64)) then (qc_gd (qc_inb ((I 291 67) - (1 : Int32)) 32) <| qc_gd (qc_inb ((I 291 67) - (1 : Int32)) 32) <| some ((), I, (qc_u L 328 (Int32.toNatClampNeg ((I 291 67) - (1 : Int32))) (L 328 (Int32.toNatClampNeg ((I 291 67) - (1 : Int32))))), D, R)) else (if x2 = (1 : Int32) then (qc_gd (qc_inb ((I 291 67) - (1 : Int32)) 32) <| qc_gd (qc_inb ((I 291 67) - (1 : Int32)) 32) <| some ((), I, (qc_u L 328 (Int32.toNatClampNeg ((I 291 67) - (1 : Int32))) (Int32.toInt64 (Int64.toInt32 (-(L 328 (Int32.toNatClampNeg ((I 291 67) - (1 : Int32)))))))), D, R)) else (qc_gd (qc_inb ((I 291 67) - (1 : Int32)) 32) <| qc_gd (qc_inb ((I 291 67) - (1 : Int32)) 32) <| some ((), I, (qc_u L 328 (Int32.toNatClampNeg ((I 291 67) - (1 : Int32))) (-(L 328 (Int32.toNatClampNeg ((I 291 67) - (1 : Int32)))))), D, R))))) else if x1 = 171 then (qc_gd (qc_inb ((I 291 67) - (1 : Int32)) 32) <| qc_bd (fX12_floor w I L D R (D 329 (Int32.toNatClampNeg ((I 291 67) - (1 : Int32))))) fun r22 I22 L22 D22 R22 => qc_gd (qc_inb ((I 291 67) - (1 : Int32)) 32) <| some ((), I22, L22, (qc_u D22 329 (Int32.toNatClampNeg ((I 291 67) - (1 : Int32))) r22), R22)) else if x1 = 172 then (qc_gd (qc_inb ((I 291 67) - (1 : Int32)) 32) <| qc_bd (fX12_floor w I L D R (FP.dneg (D 329 (Int32.toNatClampNeg ((I 291 67) - (1 : Int32)))))) fun r26 I26 L26 D26 R26 => qc_gd (qc_inb ((I 291 67) - (1 : Int32)) 32) <| some ((), I26, L26, (qc_u D26 329 (Int32.toNatClampNeg ((I 291 67) - (1 : Int32))) (FP.dneg r26)), R26)) else if x1 = 173 then (qc_gd (qc_inb ((I 291 67) - (1 : Int32)) 32) <| qc_bd (fX12_nearest w I L D R (D 329 (Int32.toNatClampNeg ((I 291 67) - (1 : Int32))))) fun r30 I30 L30 D30 R30 => qc_gd (qc_inb ((I 291 67) - (1 : Int32)) 32) <| some ((), I30, L30, (qc_u D30 329 (Int32.toNatClampNeg ((I 291 67) - (1 : Int32))) r30), R30)) else if x1 = 174 then (qc_gd (qc_inb ((I 291 67) - (1 : Int32)) 32) <| if (Op.cmpValue (FP.dcmp (D 329 (Int32.toNatClampNeg ((I 291 67) - (1 : Int32)))) (0 : UInt64)) .l) ≤ 0 then (qc_gd (qc_inb ((I 291 67) - (1 : Int32)) 32) <| if 0 ≤ (Op.cmpValue (FP.dcmp (D 329 (Int32.toNatClampNeg ((I 291 67) - (1 : Int32)))) (0 : UInt64)) .g) then (qc_gd (qc_inb ((I 291 67) - (1 : Int32)) 32) <| qc_gd (qc_inb ((I 291 67) - (1 : Int32)) 32) <| some ((), I, L, (qc_u D 329 (Int32.toNatClampNeg ((I 291 67) - (1 : Int32))) (D 329 (Int32.toNatClampNeg ((I 291 67) - (1 : Int32))))), R)) else (qc_gd (qc_inb ((I 291 67) - (1 : Int32)) 32) <| some ((), I, L, (qc_u D 329 (Int32.toNatClampNeg ((I 291 67) - (1 : Int32))) (13830554455654793216 : UInt64)), R))) else (qc_gd (qc_inb ((I 291 67) - (1 : Int32)) 32) <| some ((), I, L, (qc_u D 329 (Int32.toNatClampNeg ((I 291 67) - (1 : Int32))) (4607182418800017408 : UInt64)), R))) else (if (3 : Int32) ≤ x2 then (if x1 = (175 : Int32) then (qc_gd (qc_inb (((I 291 67) - (1 : Int32)) + (-1)) 32) <| qc_gd (qc_inb ((((I 291 67) - (1 : Int32)) + (-1)) + (1 : Int32)) 32) <| qc_bd (fX12_lesser w (qc_u I 291 67 ((I 291 67) - (1 : Int32))) L D R (D 329 (Int32.toNatClampNeg (((I 291 67) - (1 : Int32)) + (-1)))) (D 329 (Int32.toNatClampNeg ((((I 291 67) - (1 : Int32)) + (-1)) + (1 : Int32))))) fun r49 I49 L49 D49 R49 => qc_gd (qc_inb (((I 291 67) - (1 : Int32)) + (-1)) 32) <| some ((), I49, L49, (qc_u D49 329 (Int32.toNatClampNeg (((I 291 67) - (1 : Int32)) + (-1))) r49), R49)) else (qc_gd (qc_inb (((I 291 67) - (1 : Int32)) + (-1)) 32) <| qc_gd (qc_inb ((((I 291 67) - (1 : Int32)) + (-1)) + (1 : Int32)) 32) <| qc_bd (fX12_greater w (qc_u I 291 67 ((I 291 67) - (1 : Int32))) L D R (D 329 (Int32.toNatClampNeg (((I 291 67) - (1 : Int32)) + (-1)))) (D 329 (Int32.toNatClampNeg ((((I 291 67) - (1 : Int32)) + (-1)) + (1 : Int32))))) fun r45 I45 L45 D45 R45 => qc_gd (qc_inb (((I 291 67) - (1 : Int32)) + (-1)) 32) <| some ((), I45, L45, (qc_u D45 329 (Int32.toNatClampNeg (((I 291 67) - (1 : Int32)) + (-1))) r45), R45))) else (if x1 = (175 : Int32) then (qc_gd (qc_inb (((I 291 67) - (1 : Int32)) + (-1)) 32) <| qc_gd (qc_inb ((((I 291 67) - (1 : Int32)) + (-1)) + (1 : Int32)) 32) <| if 0 < (lg_cmp (L 328 (Int32.toNatClampNeg (((I 291 67) - (1 : Int32)) + (-1)))) (L 328 (Int32.toNatClampNeg ((((I 291 67) - (1 : Int32)) + (-1)) + (1 : Int32))))) then (fX12_functions_b297 w (qc_u I 291 67 ((I 291 67) - (1 : Int32))) L D R (((I 291 67) - (1 : Int32)) + (-1)) (0 : Int32)) else (fX12_functions_b297 w (qc_u I 291 67 ((I 291 67) - (1 : Int32))) L D R (((I 291 67) - (1 : Int32)) + (-1)) (1 : Int32))) else (qc_gd (qc_inb (((I 291 67) - (1 : Int32)) + (-1)) 32) <| qc_gd (qc_inb ((((I 291 67) - (1 : Int32)) + (-1)) + (1 : Int32)) 32) <| if (lg_cmp (L 328 (Int32.toNatClampNeg (((I 291 67) - (1 : Int32)) + (-1)))) (L 328 (Int32.toNatClampNeg ((((I 291 67) - (1 : Int32)) + (-1)) + (1 : Int32))))) < 0 then (fX12_functions_b297 w (qc_u I 291 67 ((I 291 67) - (1 : Int32))) L D R (((I 291 67) - (1 : Int32)) + (-1)) (0 : Int32)) else (fX12_functions_b297 w (qc_u I 291 67 ((I 291 67) - (1 : Int32))) L D R (((I 291 67) - (1 : Int32)) + (-1)) (1 : Int32))))))
set_option maxRecDepth 100000 in
set_option maxHeartbeats 4000000 in
theorem tX12_functions {w : qcW} {I : qTI} {L : qTL} {D : qTD} {R : qTR} {x1 : Int32} {x2 : Int32} {r : Unit} {I' : qTI} {L' : qTL} {D' : qTD} {R' : qTR} (hn : qcNF ≤ w.1) (hR : qc_FR R) (h : fX12_functions w I L D R x1 x2 = some (r, I', L', D', R')) : qc_fm qcSM (I, L, D, R) (I', L', D', R') ∧ qc_V (3) 0 0 qmX12_functions [.ref 291, .int x1, .int x2] w (I, L, D, R) (qc_eq none w (I', L', D', R')) := by
  unfold fX12_functions at h
  refine And.imp_right (fun hx => qc_V.of rfl rfl (Nat.le_of_ble_eq_true rfl) (lv := [(0, .ref 291), (1, .int x1), (2, .int x2)]) rfl hx) ?_
  refine And.imp_right (fun hx => qc_aload_n (qc_at qkX12_functions 0 rfl) rfl <| qc_gI (qc_at qkX12_functions 1 rfl) hn rfl <| qc_iconst (qc_at qkX12_functions 2 rfl) <| qc_isub (qc_at qkX12_functions 3 rfl) <| qc_istore_n (lv' := [(3, _), (0, _), (1, _), (2, _)]) (qc_at qkX12_functions 4 rfl) rfl rfl <| qc_iload_n (qc_at qkX12_functions 5 rfl) rfl <| hx) ?_
  refine qc_by (c := x1 = 170) (fun u6 => ?_) (fun u6 => ?_)
  · refine And.imp_right (fun hx => qc_tabIn (qc_at qkX12_functions 6 rfl) 0 (by rw [u6]; rfl) (by decide) rfl rfl hx) ?_
    replace h := qc_jp u6 h
    refine And.imp_right (fun hx => qc_iload_n (qc_at qkX12_functions 7 rfl) rfl <| qc_iconst (qc_at qkX12_functions 8 rfl) <| hx) ?_
    refine qc_andC (qc_icmp_ge (qc_at qkX12_functions 9 rfl)) (fun u7 => ?_) (fun u7 => ?_)
    · replace h := qc_jp u7 h
      refine And.imp_right (fun hx => qc_aload_n (qc_at qkX12_functions 43 rfl) rfl <| qc_gR (qc_at qkX12_functions 44 rfl) hn rfl (qfr_291_66 hR) rfl <| qc_iload_n (qc_at qkX12_functions 45 rfl) rfl <| qc_aload_n (qc_at qkX12_functions 46 rfl) rfl <| qc_gR (qc_at qkX12_functions 47 rfl) hn rfl (qfr_291_66 hR) rfl <| qc_iload_n (qc_at qkX12_functions 48 rfl) rfl <| hx) ?_
      obtain ⟨g8, h⟩ := qc_gd_of h
      refine And.imp_right (fun hx => qc_dald 32 (qc_at qkX12_functions 49 rfl) hn rfl (qc_inb_in g8) <| hx) ?_
      obtain ⟨r9, I9, L9, D9, R9, e9, h⟩ := qc_bd_of h
      have c9 := (tX12_without hn hR e9)
      refine qd_cSv (qc_at qkX12_functions 50 rfl) ql_12_608 qfX12_without c9 rfl rfl (Nat.le_of_ble_eq_true rfl) (qc_rml (by decide) (by decide)) ⟨Nat.zero_le _, Nat.zero_le _⟩ ?_
      obtain ⟨g10, h⟩ := qc_gd_of h
      refine qd_dast 32 (qc_at qkX12_functions 51 rfl) hn rfl (qc_inb_in g10) rfl ?_
      obtain ⟨rfl, rfl, rfl, rfl, rfl⟩ := qc_some5 h
      exact ⟨qc_fm.rf _, qc_goto (qc_at qkX12_functions 52 rfl) <| qc_vret (qc_at qkX12_functions 205 rfl) rfl (Nat.le_refl _) (Nat.le_refl _) (qc_eq.rf _ _ _)⟩
    · replace h := qc_jn u7 h
      refine And.imp_right (fun hx => qc_aload_n (qc_at qkX12_functions 10 rfl) rfl <| qc_gR (qc_at qkX12_functions 11 rfl) hn rfl (qfr_291_65 hR) rfl <| qc_iload_n (qc_at qkX12_functions 12 rfl) rfl <| qc_aload_n (qc_at qkX12_functions 13 rfl) rfl <| qc_gR (qc_at qkX12_functions 14 rfl) hn rfl (qfr_291_65 hR) rfl <| qc_iload_n (qc_at qkX12_functions 15 rfl) rfl <| hx) ?_
      obtain ⟨g11, h⟩ := qc_gd_of h
      refine And.imp_right (fun hx => qc_lald 32 (qc_at qkX12_functions 16 rfl) hn rfl (qc_inb_in g11) <| qc_lconst (qc_at qkX12_functions 17 rfl) <| qc_lcmp (qc_at qkX12_functions 18 rfl) <| hx) ?_
      refine qc_andC (qc_if_ge (qc_at qkX12_functions 19 rfl)) (fun u12 => ?_) (fun u12 => ?_)
      · replace h := qc_jp u12 h
        refine And.imp_right (fun hx => qc_aload_n (qc_at qkX12_functions 37 rfl) rfl <| qc_gR (qc_at qkX12_functions 38 rfl) hn rfl (qfr_291_65 hR) rfl <| qc_iload_n (qc_at qkX12_functions 39 rfl) rfl <| hx) ?_
        obtain ⟨g13, h⟩ := qc_gd_of h
        refine And.imp_right (fun hx => qc_lald 32 (qc_at qkX12_functions 40 rfl) hn rfl (qc_inb_in g13) <| hx) ?_
        obtain ⟨g14, h⟩ := qc_gd_of h
        refine qd_last 32 (qc_at qkX12_functions 41 rfl) hn rfl (qc_inb_in g14) rfl ?_
        obtain ⟨rfl, rfl, rfl, rfl, rfl⟩ := qc_some5 h
        exact ⟨qc_fm.rf _, qc_goto (qc_at qkX12_functions 42 rfl) <| qc_vret (qc_at qkX12_functions 205 rfl) rfl (Nat.le_refl _) (Nat.le_refl _) (qc_eq.rf _ _ _)⟩
      · replace h := qc_jn u12 h
        refine And.imp_right (fun hx => qc_iload_n (qc_at qkX12_functions 20 rfl) rfl <| qc_iconst (qc_at qkX12_functions 21 rfl) <| hx) ?_
        refine qc_andN (qc_icmp_ne (qc_at qkX12_functions 22 rfl)) (fun u15 => ?_) (fun u15 => ?_)
        · replace h := qc_jn u15 h
          refine And.imp_right (fun hx => qc_aload_n (qc_at qkX12_functions 31 rfl) rfl <| qc_gR (qc_at qkX12_functions 32 rfl) hn rfl (qfr_291_65 hR) rfl <| qc_iload_n (qc_at qkX12_functions 33 rfl) rfl <| hx) ?_
          obtain ⟨g16, h⟩ := qc_gd_of h
          refine And.imp_right (fun hx => qc_lald 32 (qc_at qkX12_functions 34 rfl) hn rfl (qc_inb_in g16) <| qc_lneg (qc_at qkX12_functions 35 rfl) <| qc_goto (qc_at qkX12_functions 36 rfl) <| hx) ?_
          obtain ⟨g17, h⟩ := qc_gd_of h
          refine qd_last 32 (qc_at qkX12_functions 41 rfl) hn rfl (qc_inb_in g17) rfl ?_
          obtain ⟨rfl, rfl, rfl, rfl, rfl⟩ := qc_some5 h
          exact ⟨qc_fm.rf _, qc_goto (qc_at qkX12_functions 42 rfl) <| qc_vret (qc_at qkX12_functions 205 rfl) rfl (Nat.le_refl _) (Nat.le_refl _) (qc_eq.rf _ _ _)⟩
        · replace h := qc_jp u15 h
          refine And.imp_right (fun hx => qc_aload_n (qc_at qkX12_functions 23 rfl) rfl <| qc_gR (qc_at qkX12_functions 24 rfl) hn rfl (qfr_291_65 hR) rfl <| qc_iload_n (qc_at qkX12_functions 25 rfl) rfl <| hx) ?_
          obtain ⟨g18, h⟩ := qc_gd_of h
          refine And.imp_right (fun hx => qc_lald 32 (qc_at qkX12_functions 26 rfl) hn rfl (qc_inb_in g18) <| qc_lneg (qc_at qkX12_functions 27 rfl) <| qc_l2i (qc_at qkX12_functions 28 rfl) <| qc_i2l (qc_at qkX12_functions 29 rfl) <| qc_goto (qc_at qkX12_functions 30 rfl) <| hx) ?_
          obtain ⟨g19, h⟩ := qc_gd_of h
          refine qd_last 32 (qc_at qkX12_functions 41 rfl) hn rfl (qc_inb_in g19) rfl ?_
          obtain ⟨rfl, rfl, rfl, rfl, rfl⟩ := qc_some5 h
          exact ⟨qc_fm.rf _, qc_goto (qc_at qkX12_functions 42 rfl) <| qc_vret (qc_at qkX12_functions 205 rfl) rfl (Nat.le_refl _) (Nat.le_refl _) (qc_eq.rf _ _ _)⟩
  · replace h := qc_jn u6 h
    refine qc_by (c := x1 = 171) (fun u20 => ?_) (fun u20 => ?_)
    · refine And.imp_right (fun hx => qc_tabIn (qc_at qkX12_functions 6 rfl) 1 (by rw [u20]; rfl) (by decide) rfl rfl hx) ?_
      replace h := qc_jp u20 h
      refine And.imp_right (fun hx => qc_aload_n (qc_at qkX12_functions 53 rfl) rfl <| qc_gR (qc_at qkX12_functions 54 rfl) hn rfl (qfr_291_66 hR) rfl <| qc_iload_n (qc_at qkX12_functions 55 rfl) rfl <| qc_aload_n (qc_at qkX12_functions 56 rfl) rfl <| qc_gR (qc_at qkX12_functions 57 rfl) hn rfl (qfr_291_66 hR) rfl <| qc_iload_n (qc_at qkX12_functions 58 rfl) rfl <| hx) ?_
      obtain ⟨g21, h⟩ := qc_gd_of h
      refine And.imp_right (fun hx => qc_dald 32 (qc_at qkX12_functions 59 rfl) hn rfl (qc_inb_in g21) <| hx) ?_
      obtain ⟨r22, I22, L22, D22, R22, e22, h⟩ := qc_bd_of h
      have c22 := (tX12_floor hn hR e22)
      refine qd_cSv (qc_at qkX12_functions 60 rfl) ql_12_600 qfX12_floor c22 rfl rfl (Nat.le_of_ble_eq_true rfl) (qc_rml (by decide) (by decide)) ⟨Nat.zero_le _, Nat.zero_le _⟩ ?_
      obtain ⟨g23, h⟩ := qc_gd_of h
      refine qd_dast 32 (qc_at qkX12_functions 61 rfl) hn rfl (qc_inb_in g23) rfl ?_
      obtain ⟨rfl, rfl, rfl, rfl, rfl⟩ := qc_some5 h
      exact ⟨qc_fm.rf _, qc_goto (qc_at qkX12_functions 62 rfl) <| qc_vret (qc_at qkX12_functions 205 rfl) rfl (Nat.le_refl _) (Nat.le_refl _) (qc_eq.rf _ _ _)⟩
    · replace h := qc_jn u20 h
      refine qc_by (c := x1 = 172) (fun u24 => ?_) (fun u24 => ?_)
      · refine And.imp_right (fun hx => qc_tabIn (qc_at qkX12_functions 6 rfl) 2 (by rw [u24]; rfl) (by decide) rfl rfl hx) ?_
        replace h := qc_jp u24 h
        refine And.imp_right (fun hx => qc_aload_n (qc_at qkX12_functions 63 rfl) rfl <| qc_gR (qc_at qkX12_functions 64 rfl) hn rfl (qfr_291_66 hR) rfl <| qc_iload_n (qc_at qkX12_functions 65 rfl) rfl <| qc_aload_n (qc_at qkX12_functions 66 rfl) rfl <| qc_gR (qc_at qkX12_functions 67 rfl) hn rfl (qfr_291_66 hR) rfl <| qc_iload_n (qc_at qkX12_functions 68 rfl) rfl <| hx) ?_
        obtain ⟨g25, h⟩ := qc_gd_of h
        refine And.imp_right (fun hx => qc_dald 32 (qc_at qkX12_functions 69 rfl) hn rfl (qc_inb_in g25) <| qc_dneg (qc_at qkX12_functions 70 rfl) <| hx) ?_
        obtain ⟨r26, I26, L26, D26, R26, e26, h⟩ := qc_bd_of h
        have c26 := (tX12_floor hn hR e26)
        refine qd_cSv (qc_at qkX12_functions 71 rfl) ql_12_600 qfX12_floor c26 rfl rfl (Nat.le_of_ble_eq_true rfl) (qc_rml (by decide) (by decide)) ⟨Nat.zero_le _, Nat.zero_le _⟩ ?_
        refine And.imp_right (fun hx => qc_dneg (qc_at qkX12_functions 72 rfl) <| hx) ?_
        obtain ⟨g27, h⟩ := qc_gd_of h
        refine qd_dast 32 (qc_at qkX12_functions 73 rfl) hn rfl (qc_inb_in g27) rfl ?_
        obtain ⟨rfl, rfl, rfl, rfl, rfl⟩ := qc_some5 h
        exact ⟨qc_fm.rf _, qc_goto (qc_at qkX12_functions 74 rfl) <| qc_vret (qc_at qkX12_functions 205 rfl) rfl (Nat.le_refl _) (Nat.le_refl _) (qc_eq.rf _ _ _)⟩
      · replace h := qc_jn u24 h
        refine qc_by (c := x1 = 173) (fun u28 => ?_) (fun u28 => ?_)
        · refine And.imp_right (fun hx => qc_tabIn (qc_at qkX12_functions 6 rfl) 3 (by rw [u28]; rfl) (by decide) rfl rfl hx) ?_
          replace h := qc_jp u28 h
          refine And.imp_right (fun hx => qc_aload_n (qc_at qkX12_functions 75 rfl) rfl <| qc_gR (qc_at qkX12_functions 76 rfl) hn rfl (qfr_291_66 hR) rfl <| qc_iload_n (qc_at qkX12_functions 77 rfl) rfl <| qc_aload_n (qc_at qkX12_functions 78 rfl) rfl <| qc_gR (qc_at qkX12_functions 79 rfl) hn rfl (qfr_291_66 hR) rfl <| qc_iload_n (qc_at qkX12_functions 80 rfl) rfl <| hx) ?_
          obtain ⟨g29, h⟩ := qc_gd_of h
          refine And.imp_right (fun hx => qc_dald 32 (qc_at qkX12_functions 81 rfl) hn rfl (qc_inb_in g29) <| hx) ?_
          obtain ⟨r30, I30, L30, D30, R30, e30, h⟩ := qc_bd_of h
          have c30 := (tX12_nearest hn hR e30)
          refine qd_cSv (qc_at qkX12_functions 82 rfl) ql_12_650 qfX12_nearest c30 rfl rfl (Nat.le_of_ble_eq_true rfl) (qc_rml (by decide) (by decide)) ⟨Nat.zero_le _, Nat.zero_le _⟩ ?_
          obtain ⟨g31, h⟩ := qc_gd_of h
          refine qd_dast 32 (qc_at qkX12_functions 83 rfl) hn rfl (qc_inb_in g31) rfl ?_
          obtain ⟨rfl, rfl, rfl, rfl, rfl⟩ := qc_some5 h
          exact ⟨qc_fm.rf _, qc_goto (qc_at qkX12_functions 84 rfl) <| qc_vret (qc_at qkX12_functions 205 rfl) rfl (Nat.le_refl _) (Nat.le_refl _) (qc_eq.rf _ _ _)⟩
        · replace h := qc_jn u28 h
          refine qc_by (c := x1 = 174) (fun u32 => ?_) (fun u32 => ?_)
          · refine And.imp_right (fun hx => qc_tabIn (qc_at qkX12_functions 6 rfl) 4 (by rw [u32]; rfl) (by decide) rfl rfl hx) ?_
            replace h := qc_jp u32 h
            refine And.imp_right (fun hx => qc_aload_n (qc_at qkX12_functions 85 rfl) rfl <| qc_gR (qc_at qkX12_functions 86 rfl) hn rfl (qfr_291_66 hR) rfl <| qc_iload_n (qc_at qkX12_functions 87 rfl) rfl <| qc_aload_n (qc_at qkX12_functions 88 rfl) rfl <| qc_gR (qc_at qkX12_functions 89 rfl) hn rfl (qfr_291_66 hR) rfl <| qc_iload_n (qc_at qkX12_functions 90 rfl) rfl <| hx) ?_
            obtain ⟨g33, h⟩ := qc_gd_of h
            refine And.imp_right (fun hx => qc_dald 32 (qc_at qkX12_functions 91 rfl) hn rfl (qc_inb_in g33) <| qc_dconst (qc_at qkX12_functions 92 rfl) <| qc_dcmp (qc_at qkX12_functions 93 rfl) <| hx) ?_
            refine qc_andC (qc_if_le (qc_at qkX12_functions 94 rfl)) (fun u34 => ?_) (fun u34 => ?_)
            · replace h := qc_jp u34 h
              refine And.imp_right (fun hx => qc_aload_n (qc_at qkX12_functions 97 rfl) rfl <| qc_gR (qc_at qkX12_functions 98 rfl) hn rfl (qfr_291_66 hR) rfl <| qc_iload_n (qc_at qkX12_functions 99 rfl) rfl <| hx) ?_
              obtain ⟨g35, h⟩ := qc_gd_of h
              refine And.imp_right (fun hx => qc_dald 32 (qc_at qkX12_functions 100 rfl) hn rfl (qc_inb_in g35) <| qc_dconst (qc_at qkX12_functions 101 rfl) <| qc_dcmp (qc_at qkX12_functions 102 rfl) <| hx) ?_
              refine qc_andC (qc_if_ge (qc_at qkX12_functions 103 rfl)) (fun u36 => ?_) (fun u36 => ?_)
              · replace h := qc_jp u36 h
                refine And.imp_right (fun hx => qc_aload_n (qc_at qkX12_functions 106 rfl) rfl <| qc_gR (qc_at qkX12_functions 107 rfl) hn rfl (qfr_291_66 hR) rfl <| qc_iload_n (qc_at qkX12_functions 108 rfl) rfl <| hx) ?_
                obtain ⟨g37, h⟩ := qc_gd_of h
                refine And.imp_right (fun hx => qc_dald 32 (qc_at qkX12_functions 109 rfl) hn rfl (qc_inb_in g37) <| hx) ?_
                obtain ⟨g38, h⟩ := qc_gd_of h
                refine qd_dast 32 (qc_at qkX12_functions 110 rfl) hn rfl (qc_inb_in g38) rfl ?_
                obtain ⟨rfl, rfl, rfl, rfl, rfl⟩ := qc_some5 h
                exact ⟨qc_fm.rf _, qc_goto (qc_at qkX12_functions 111 rfl) <| qc_vret (qc_at qkX12_functions 205 rfl) rfl (Nat.le_refl _) (Nat.le_refl _) (qc_eq.rf _ _ _)⟩
              · replace h := qc_jn u36 h
                refine And.imp_right (fun hx => qc_ldc2d (qc_at qkX12_functions 104 rfl) <| qc_goto (qc_at qkX12_functions 105 rfl) <| hx) ?_
                obtain ⟨g39, h⟩ := qc_gd_of h
                refine qd_dast 32 (qc_at qkX12_functions 110 rfl) hn rfl (qc_inb_in g39) rfl ?_
                obtain ⟨rfl, rfl, rfl, rfl, rfl⟩ := qc_some5 h
                exact ⟨qc_fm.rf _, qc_goto (qc_at qkX12_functions 111 rfl) <| qc_vret (qc_at qkX12_functions 205 rfl) rfl (Nat.le_refl _) (Nat.le_refl _) (qc_eq.rf _ _ _)⟩
            · replace h := qc_jn u34 h
              refine And.imp_right (fun hx => qc_dconst (qc_at qkX12_functions 95 rfl) <| qc_goto (qc_at qkX12_functions 96 rfl) <| hx) ?_
              obtain ⟨g40, h⟩ := qc_gd_of h
              refine qd_dast 32 (qc_at qkX12_functions 110 rfl) hn rfl (qc_inb_in g40) rfl ?_
              obtain ⟨rfl, rfl, rfl, rfl, rfl⟩ := qc_some5 h
              exact ⟨qc_fm.rf _, qc_goto (qc_at qkX12_functions 111 rfl) <| qc_vret (qc_at qkX12_functions 205 rfl) rfl (Nat.le_refl _) (Nat.le_refl _) (qc_eq.rf _ _ _)⟩
          · replace h := qc_jn u32 h
            have v6 : ¬ Int32.toInt x1 = 170 := fun z => u6 (qc_i32 z rfl)
            have v20 : ¬ Int32.toInt x1 = 171 := fun z => u20 (qc_i32 z rfl)
            have v24 : ¬ Int32.toInt x1 = 172 := fun z => u24 (qc_i32 z rfl)
            have v28 : ¬ Int32.toInt x1 = 173 := fun z => u28 (qc_i32 z rfl)
            have v32 : ¬ Int32.toInt x1 = 174 := fun z => u32 (qc_i32 z rfl)
            refine And.imp_right (fun hx => qc_tabOut (qc_at qkX12_functions 6 rfl) (by omega) rfl hx) ?_
            refine And.imp_right (fun hx => qc_aload_n (qc_at qkX12_functions 112 rfl) rfl <| qc_dup (qc_at qkX12_functions 113 rfl) rfl <| qc_gI (qc_at qkX12_functions 114 rfl) hn rfl <| qc_iconst (qc_at qkX12_functions 115 rfl) <| qc_isub (qc_at qkX12_functions 116 rfl) <| hx) (qd_pI (qc_at qkX12_functions 117 rfl) hn rfl rfl ?_)
            refine And.imp_right (fun hx => qc_iinc (lv' := [(3, _), (0, _), (1, _), (2, _)]) (qc_at qkX12_functions 118 rfl) rfl rfl rfl <| qc_iload_n (qc_at qkX12_functions 119 rfl) rfl <| qc_iconst (qc_at qkX12_functions 120 rfl) <| hx) ?_
            refine qc_andC (qc_icmp_ge (qc_at qkX12_functions 121 rfl)) (fun u41 => ?_) (fun u41 => ?_)
            · replace h := qc_jp u41 h
              refine And.imp_right (fun hx => qc_aload_n (qc_at qkX12_functions 175 rfl) rfl <| qc_gR (qc_at qkX12_functions 176 rfl) hn rfl (qfr_291_66 hR) rfl <| qc_iload_n (qc_at qkX12_functions 177 rfl) rfl <| qc_iload_n (qc_at qkX12_functions 178 rfl) rfl <| qc_sipush (qc_at qkX12_functions 179 rfl) <| hx) ?_
              refine qc_andN (qc_icmp_ne (qc_at qkX12_functions 180 rfl)) (fun u42 => ?_) (fun u42 => ?_)
              · replace h := qc_jn u42 h
                refine And.imp_right (fun hx => qc_aload_n (qc_at qkX12_functions 193 rfl) rfl <| qc_gR (qc_at qkX12_functions 194 rfl) hn rfl (qfr_291_66 hR) rfl <| qc_iload_n (qc_at qkX12_functions 195 rfl) rfl <| hx) ?_
                obtain ⟨g43, h⟩ := qc_gd_of h
                refine And.imp_right (fun hx => qc_dald 32 (qc_at qkX12_functions 196 rfl) hn rfl (qc_inb_in g43) <| qc_aload_n (qc_at qkX12_functions 197 rfl) rfl <| qc_gR (qc_at qkX12_functions 198 rfl) hn rfl (qfr_291_66 hR) rfl <| qc_iload_n (qc_at qkX12_functions 199 rfl) rfl <| qc_iconst (qc_at qkX12_functions 200 rfl) <| qc_iadd (qc_at qkX12_functions 201 rfl) <| hx) ?_
                obtain ⟨g44, h⟩ := qc_gd_of h
                refine And.imp_right (fun hx => qc_dald 32 (qc_at qkX12_functions 202 rfl) hn rfl (qc_inb_in g44) <| hx) ?_
                obtain ⟨r45, I45, L45, D45, R45, e45, h⟩ := qc_bd_of h
                have c45 := (tX12_greater hn hR e45)
                refine qd_cSv (qc_at qkX12_functions 203 rfl) ql_12_659 qfX12_greater c45 rfl rfl (Nat.le_of_ble_eq_true rfl) (qc_rml (by decide) (by decide)) ⟨Nat.zero_le _, Nat.zero_le _⟩ ?_
                obtain ⟨g46, h⟩ := qc_gd_of h
                refine qd_dast 32 (qc_at qkX12_functions 204 rfl) hn rfl (qc_inb_in g46) rfl ?_
                obtain ⟨rfl, rfl, rfl, rfl, rfl⟩ := qc_some5 h
                exact ⟨qc_fm.rf _, qc_vret (qc_at qkX12_functions 205 rfl) rfl (Nat.le_refl _) (Nat.le_refl _) (qc_eq.rf _ _ _)⟩
              · replace h := qc_jp u42 h
                refine And.imp_right (fun hx => qc_aload_n (qc_at qkX12_functions 181 rfl) rfl <| qc_gR (qc_at qkX12_functions 182 rfl) hn rfl (qfr_291_66 hR) rfl <| qc_iload_n (qc_at qkX12_functions 183 rfl) rfl <| hx) ?_
                obtain ⟨g47, h⟩ := qc_gd_of h
                refine And.imp_right (fun hx => qc_dald 32 (qc_at qkX12_functions 184 rfl) hn rfl (qc_inb_in g47) <| qc_aload_n (qc_at qkX12_functions 185 rfl) rfl <| qc_gR (qc_at qkX12_functions 186 rfl) hn rfl (qfr_291_66 hR) rfl <| qc_iload_n (qc_at qkX12_functions 187 rfl) rfl <| qc_iconst (qc_at qkX12_functions 188 rfl) <| qc_iadd (qc_at qkX12_functions 189 rfl) <| hx) ?_
                obtain ⟨g48, h⟩ := qc_gd_of h
                refine And.imp_right (fun hx => qc_dald 32 (qc_at qkX12_functions 190 rfl) hn rfl (qc_inb_in g48) <| hx) ?_
                obtain ⟨r49, I49, L49, D49, R49, e49, h⟩ := qc_bd_of h
                have c49 := (tX12_lesser hn hR e49)
                refine qd_cSv (qc_at qkX12_functions 191 rfl) ql_12_655 qfX12_lesser c49 rfl rfl (Nat.le_of_ble_eq_true rfl) (qc_rml (by decide) (by decide)) ⟨Nat.zero_le _, Nat.zero_le _⟩ ?_
                refine And.imp_right (fun hx => qc_goto (qc_at qkX12_functions 192 rfl) <| hx) ?_
                obtain ⟨g50, h⟩ := qc_gd_of h
                refine qd_dast 32 (qc_at qkX12_functions 204 rfl) hn rfl (qc_inb_in g50) rfl ?_
                obtain ⟨rfl, rfl, rfl, rfl, rfl⟩ := qc_some5 h
                exact ⟨qc_fm.rf _, qc_vret (qc_at qkX12_functions 205 rfl) rfl (Nat.le_refl _) (Nat.le_refl _) (qc_eq.rf _ _ _)⟩
            · replace h := qc_jn u41 h
              refine And.imp_right (fun hx => qc_iload_n (qc_at qkX12_functions 122 rfl) rfl <| qc_sipush (qc_at qkX12_functions 123 rfl) <| hx) ?_
              refine qc_andN (qc_icmp_ne (qc_at qkX12_functions 124 rfl)) (fun u51 => ?_) (fun u51 => ?_)
              · replace h := qc_jn u51 h
                refine And.imp_right (fun hx => qc_aload_n (qc_at qkX12_functions 141 rfl) rfl <| qc_gR (qc_at qkX12_functions 142 rfl) hn rfl (qfr_291_65 hR) rfl <| qc_iload_n (qc_at qkX12_functions 143 rfl) rfl <| hx) ?_
                obtain ⟨g52, h⟩ := qc_gd_of h
                refine And.imp_right (fun hx => qc_lald 32 (qc_at qkX12_functions 144 rfl) hn rfl (qc_inb_in g52) <| qc_aload_n (qc_at qkX12_functions 145 rfl) rfl <| qc_gR (qc_at qkX12_functions 146 rfl) hn rfl (qfr_291_65 hR) rfl <| qc_iload_n (qc_at qkX12_functions 147 rfl) rfl <| qc_iconst (qc_at qkX12_functions 148 rfl) <| qc_iadd (qc_at qkX12_functions 149 rfl) <| hx) ?_
                obtain ⟨g53, h⟩ := qc_gd_of h
                refine And.imp_right (fun hx => qc_lald 32 (qc_at qkX12_functions 150 rfl) hn rfl (qc_inb_in g53) <| qc_lcmp (qc_at qkX12_functions 151 rfl) <| hx) ?_
                refine qc_andC (qc_if_lt (qc_at qkX12_functions 152 rfl)) (fun u54 => ?_) (fun u54 => ?_)
                · replace h := qc_jp u54 h
                  exact And.imp_right (fun hx => qc_iconst (qc_at qkX12_functions 155 rfl) <| qc_sub [1, 0] rfl hx) (tX12_functions_b297 hn hR h)
                · replace h := qc_jn u54 h
                  exact And.imp_right (fun hx => qc_iconst (qc_at qkX12_functions 153 rfl) <| qc_goto (qc_at qkX12_functions 154 rfl) <| qc_sub [1, 0] rfl hx) (tX12_functions_b297 hn hR h)
              · replace h := qc_jp u51 h
                refine And.imp_right (fun hx => qc_aload_n (qc_at qkX12_functions 125 rfl) rfl <| qc_gR (qc_at qkX12_functions 126 rfl) hn rfl (qfr_291_65 hR) rfl <| qc_iload_n (qc_at qkX12_functions 127 rfl) rfl <| hx) ?_
                obtain ⟨g55, h⟩ := qc_gd_of h
                refine And.imp_right (fun hx => qc_lald 32 (qc_at qkX12_functions 128 rfl) hn rfl (qc_inb_in g55) <| qc_aload_n (qc_at qkX12_functions 129 rfl) rfl <| qc_gR (qc_at qkX12_functions 130 rfl) hn rfl (qfr_291_65 hR) rfl <| qc_iload_n (qc_at qkX12_functions 131 rfl) rfl <| qc_iconst (qc_at qkX12_functions 132 rfl) <| qc_iadd (qc_at qkX12_functions 133 rfl) <| hx) ?_
                obtain ⟨g56, h⟩ := qc_gd_of h
                refine And.imp_right (fun hx => qc_lald 32 (qc_at qkX12_functions 134 rfl) hn rfl (qc_inb_in g56) <| qc_lcmp (qc_at qkX12_functions 135 rfl) <| hx) ?_
                refine qc_andC (qc_if_gt (qc_at qkX12_functions 136 rfl)) (fun u57 => ?_) (fun u57 => ?_)
                · replace h := qc_jp u57 h
                  exact And.imp_right (fun hx => qc_iconst (qc_at qkX12_functions 139 rfl) <| qc_goto (qc_at qkX12_functions 140 rfl) <| qc_sub [1, 0] rfl hx) (tX12_functions_b297 hn hR h)
                · replace h := qc_jn u57 h
                  exact And.imp_right (fun hx => qc_iconst (qc_at qkX12_functions 137 rfl) <| qc_goto (qc_at qkX12_functions 138 rfl) <| qc_sub [1, 0] rfl hx) (tX12_functions_b297 hn hR h)
def fX12_goes_b91 (w : qcW) (I : qTI) (L : qTL) (D : qTD) (R : qTR) (x2 : Int32) (s0 : Int32) (s1 : Int32) : qcO Unit :=
  (if s1 = s0 then (some ((), (qc_u I 291 68 x2), L, D, R)) else (some ((), (qc_u I 291 68 (I 291 68)), L, D, R)))
set_option maxRecDepth 100000 in
set_option maxHeartbeats 4000000 in
theorem tX12_goes_b91 {w : qcW} {I : qTI} {L : qTL} {D : qTD} {R : qTR} {x2 : Int32} {s0 : Int32} {s1 : Int32} {r : Unit} {I' : qTI} {L' : qTL} {D' : qTD} {R' : qTR} (hn : qcNF ≤ w.1) (hR : qc_FR R) (h : fX12_goes_b91 w I L D R x2 s0 s1 = some (r, I', L', D', R')) : qc_fm qcSM (I, L, D, R) (I', L', D', R') ∧ qc_X (qc_rm (0) 0 0) qmX12_goes (qc_QM 0 0 (qc_eq none w (I', L', D', R'))) 0 0 w (91, [(0, .ref 291), (2, .int x2)], [.int s0, .int s1, .ref 291], I, L, D, R) := by
  unfold fX12_goes_b91 at h
  refine qc_andN (qc_icmp_ne (qc_at qkX12_goes 51 rfl)) (fun u1 => ?_) (fun u1 => ?_)
  · replace h := qc_jn u1 h
    refine And.imp_right (fun hx => qc_aload_n (qc_at qkX12_goes 54 rfl) rfl <| qc_gI (qc_at qkX12_goes 55 rfl) hn rfl <| hx) (qd_pI (qc_at qkX12_goes 56 rfl) hn rfl rfl ?_)
    obtain ⟨rfl, rfl, rfl, rfl, rfl⟩ := qc_some5 h
    exact ⟨qc_fm.rf _, qc_vret (qc_at qkX12_goes 57 rfl) rfl (Nat.le_refl _) (Nat.le_refl _) (qc_eq.rf _ _ _)⟩
  · replace h := qc_jp u1 h
    refine And.imp_right (fun hx => qc_iload_n (qc_at qkX12_goes 52 rfl) rfl <| qc_goto (qc_at qkX12_goes 53 rfl) <| hx) (qd_pI (qc_at qkX12_goes 56 rfl) hn rfl rfl ?_)
    obtain ⟨rfl, rfl, rfl, rfl, rfl⟩ := qc_some5 h
    exact ⟨qc_fm.rf _, qc_vret (qc_at qkX12_goes 57 rfl) rfl (Nat.le_refl _) (Nat.le_refl _) (qc_eq.rf _ _ _)⟩
def fX12_goes_b79 (w : qcW) (I : qTI) (L : qTL) (D : qTD) (R : qTR) (x1 : Int32) (x2 : Int32) (s0 : Int32) : qcO Unit :=
  (if x1 = (1801 : Int32) then (fX12_goes_b91 w I L D R x2 (1 : Int32) s0) else (fX12_goes_b91 w I L D R x2 (0 : Int32) s0))
set_option maxRecDepth 100000 in
set_option maxHeartbeats 4000000 in
theorem tX12_goes_b79 {w : qcW} {I : qTI} {L : qTL} {D : qTD} {R : qTR} {x1 : Int32} {x2 : Int32} {s0 : Int32} {r : Unit} {I' : qTI} {L' : qTL} {D' : qTD} {R' : qTR} (hn : qcNF ≤ w.1) (hR : qc_FR R) (h : fX12_goes_b79 w I L D R x1 x2 s0 = some (r, I', L', D', R')) : qc_fm qcSM (I, L, D, R) (I', L', D', R') ∧ qc_X (qc_rm (0) 0 0) qmX12_goes (qc_QM 0 0 (qc_eq none w (I', L', D', R'))) 0 0 w (79, [(0, .ref 291), (1, .int x1), (2, .int x2)], [.int s0, .ref 291], I, L, D, R) := by
  unfold fX12_goes_b79 at h
  refine And.imp_right (fun hx => qc_iload_n (qc_at qkX12_goes 45 rfl) rfl <| qc_sipush (qc_at qkX12_goes 46 rfl) <| hx) ?_
  refine qc_andN (qc_icmp_ne (qc_at qkX12_goes 47 rfl)) (fun u2 => ?_) (fun u2 => ?_)
  · replace h := qc_jn u2 h
    exact And.imp_right (fun hx => qc_iconst (qc_at qkX12_goes 50 rfl) <| qc_sub [0, 2] rfl hx) (tX12_goes_b91 hn hR h)
  · replace h := qc_jp u2 h
    exact And.imp_right (fun hx => qc_iconst (qc_at qkX12_goes 48 rfl) <| qc_goto (qc_at qkX12_goes 49 rfl) <| qc_sub [0, 2] rfl hx) (tX12_goes_b91 hn hR h)
def fX12_goes (w : qcW) (I : qTI) (L : qTL) (D : qTD) (R : qTR) (x1 : Int32) (x2 : Int32) : qcO Unit :=
  (if x1 = (1802 : Int32) then (some ((), (qc_u I 291 68 x2), L, D, R)) else (if x1 = (1810 : Int32) then (qc_gd (qc_inb ((I 291 67) - (1 : Int32)) 32) <| qc_gd (qc_inb ((I 291 67) - (1 : Int32)) 32) <| some ((), I, (qc_u L 328 (Int32.toNatClampNeg ((I 291 67) - (1 : Int32))) ((1 : Int64) - (L 328 (Int32.toNatClampNeg ((I 291 67) - (1 : Int32)))))), D, R)) else (qc_gd (qc_inb ((qc_u I 291 67 ((I 291 67) - (1 : Int32))) 291 67) 32) <| if (lg_cmp (L 328 (Int32.toNatClampNeg ((qc_u I 291 67 ((I 291 67) - (1 : Int32))) 291 67))) (0 : Int64)) = 0 then (fX12_goes_b79 w (qc_u I 291 67 ((I 291 67) - (1 : Int32))) L D R x1 x2 (0 : Int32)) else (fX12_goes_b79 w (qc_u I 291 67 ((I 291 67) - (1 : Int32))) L D R x1 x2 (1 : Int32)))))
set_option maxRecDepth 100000 in
set_option maxHeartbeats 4000000 in
theorem tX12_goes {w : qcW} {I : qTI} {L : qTL} {D : qTD} {R : qTR} {x1 : Int32} {x2 : Int32} {r : Unit} {I' : qTI} {L' : qTL} {D' : qTD} {R' : qTR} (hn : qcNF ≤ w.1) (hR : qc_FR R) (h : fX12_goes w I L D R x1 x2 = some (r, I', L', D', R')) : qc_fm qcSM (I, L, D, R) (I', L', D', R') ∧ qc_V (0) 0 0 qmX12_goes [.ref 291, .int x1, .int x2] w (I, L, D, R) (qc_eq none w (I', L', D', R')) := by
  unfold fX12_goes at h
  refine And.imp_right (fun hx => qc_V.of rfl rfl (Nat.le_of_ble_eq_true rfl) (lv := [(0, .ref 291), (1, .int x1), (2, .int x2)]) rfl hx) ?_
  refine And.imp_right (fun hx => qc_iload_n (qc_at qkX12_goes 0 rfl) rfl <| qc_sipush (qc_at qkX12_goes 1 rfl) <| hx) ?_
  refine qc_andN (qc_icmp_ne (qc_at qkX12_goes 2 rfl)) (fun u3 => ?_) (fun u3 => ?_)
  · replace h := qc_jn u3 h
    refine And.imp_right (fun hx => qc_iload_n (qc_at qkX12_goes 7 rfl) rfl <| qc_sipush (qc_at qkX12_goes 8 rfl) <| hx) ?_
    refine qc_andN (qc_icmp_ne (qc_at qkX12_goes 9 rfl)) (fun u4 => ?_) (fun u4 => ?_)
    · replace h := qc_jn u4 h
      refine And.imp_right (fun hx => qc_aload_n (qc_at qkX12_goes 27 rfl) rfl <| qc_dup (qc_at qkX12_goes 28 rfl) rfl <| qc_gI (qc_at qkX12_goes 29 rfl) hn rfl <| qc_iconst (qc_at qkX12_goes 30 rfl) <| qc_isub (qc_at qkX12_goes 31 rfl) <| hx) (qd_pI (qc_at qkX12_goes 32 rfl) hn rfl rfl ?_)
      refine And.imp_right (fun hx => qc_aload_n (qc_at qkX12_goes 33 rfl) rfl <| qc_aload_n (qc_at qkX12_goes 34 rfl) rfl <| qc_gR (qc_at qkX12_goes 35 rfl) hn rfl (qfr_291_65 hR) rfl <| qc_aload_n (qc_at qkX12_goes 36 rfl) rfl <| qc_gI (qc_at qkX12_goes 37 rfl) hn rfl <| hx) ?_
      obtain ⟨g5, h⟩ := qc_gd_of h
      refine And.imp_right (fun hx => qc_lald 32 (qc_at qkX12_goes 38 rfl) hn rfl (qc_inb_in g5) <| qc_lconst (qc_at qkX12_goes 39 rfl) <| qc_lcmp (qc_at qkX12_goes 40 rfl) <| hx) ?_
      refine qc_andC (qc_if_eq (qc_at qkX12_goes 41 rfl)) (fun u6 => ?_) (fun u6 => ?_)
      · replace h := qc_jp u6 h
        exact And.imp_right (fun hx => qc_iconst (qc_at qkX12_goes 44 rfl) <| qc_sub [0, 1, 2] rfl hx) (tX12_goes_b79 hn hR h)
      · replace h := qc_jn u6 h
        exact And.imp_right (fun hx => qc_iconst (qc_at qkX12_goes 42 rfl) <| qc_goto (qc_at qkX12_goes 43 rfl) <| qc_sub [0, 1, 2] rfl hx) (tX12_goes_b79 hn hR h)
    · replace h := qc_jp u4 h
      refine And.imp_right (fun hx => qc_aload_n (qc_at qkX12_goes 10 rfl) rfl <| qc_gR (qc_at qkX12_goes 11 rfl) hn rfl (qfr_291_65 hR) rfl <| qc_aload_n (qc_at qkX12_goes 12 rfl) rfl <| qc_gI (qc_at qkX12_goes 13 rfl) hn rfl <| qc_iconst (qc_at qkX12_goes 14 rfl) <| qc_isub (qc_at qkX12_goes 15 rfl) <| qc_lconst (qc_at qkX12_goes 16 rfl) <| qc_aload_n (qc_at qkX12_goes 17 rfl) rfl <| qc_gR (qc_at qkX12_goes 18 rfl) hn rfl (qfr_291_65 hR) rfl <| qc_aload_n (qc_at qkX12_goes 19 rfl) rfl <| qc_gI (qc_at qkX12_goes 20 rfl) hn rfl <| qc_iconst (qc_at qkX12_goes 21 rfl) <| qc_isub (qc_at qkX12_goes 22 rfl) <| hx) ?_
      obtain ⟨g7, h⟩ := qc_gd_of h
      refine And.imp_right (fun hx => qc_lald 32 (qc_at qkX12_goes 23 rfl) hn rfl (qc_inb_in g7) <| qc_lsub (qc_at qkX12_goes 24 rfl) <| hx) ?_
      obtain ⟨g8, h⟩ := qc_gd_of h
      refine qd_last 32 (qc_at qkX12_goes 25 rfl) hn rfl (qc_inb_in g8) rfl ?_
      obtain ⟨rfl, rfl, rfl, rfl, rfl⟩ := qc_some5 h
      exact ⟨qc_fm.rf _, qc_goto (qc_at qkX12_goes 26 rfl) <| qc_vret (qc_at qkX12_goes 57 rfl) rfl (Nat.le_refl _) (Nat.le_refl _) (qc_eq.rf _ _ _)⟩
  · replace h := qc_jp u3 h
    refine And.imp_right (fun hx => qc_aload_n (qc_at qkX12_goes 3 rfl) rfl <| qc_iload_n (qc_at qkX12_goes 4 rfl) rfl <| hx) (qd_pI (qc_at qkX12_goes 5 rfl) hn rfl rfl ?_)
    obtain ⟨rfl, rfl, rfl, rfl, rfl⟩ := qc_some5 h
    exact ⟨qc_fm.rf _, qc_goto (qc_at qkX12_goes 6 rfl) <| qc_vret (qc_at qkX12_goes 57 rfl) rfl (Nat.le_refl _) (Nat.le_refl _) (qc_eq.rf _ _ _)⟩
def fX12_does_b48 (w : qcW) (I : qTI) (L : qTL) (D : qTD) (R : qTR) (s0 : Int64) : qcO Unit :=
  (qc_bd (fX12_lays w I L D R s0) fun r1 I1 L1 D1 R1 => some ((), I1, L1, D1, R1))
set_option maxRecDepth 100000 in
set_option maxHeartbeats 4000000 in
theorem tX12_does_b48 {w : qcW} {I : qTI} {L : qTL} {D : qTD} {R : qTR} {s0 : Int64} {r : Unit} {I' : qTI} {L' : qTL} {D' : qTD} {R' : qTR} (hn : qcNF ≤ w.1) (hR : qc_FR R) (h : fX12_does_b48 w I L D R s0 = some (r, I', L', D', R')) : qc_fm qcSM (I, L, D, R) (I', L', D', R') ∧ qc_X (qc_rm (4) 0 0) qmX12_does (qc_QM 0 0 (qc_eq none w (I', L', D', R'))) 0 0 w (48, [], [.long s0, .ref 291], I, L, D, R) := by
  unfold fX12_does_b48 at h
  obtain ⟨r1, I1, L1, D1, R1, e1, h⟩ := qc_bd_of h
  have c1 := (tX12_lays hn hR e1)
  refine qd_cVn (ci := 10) (a0 := 291) (qc_at qkX12_does 28 rfl) ql_12_627 qfX12_lays (qc_kf hn rfl) rfl c1 rfl rfl (Nat.le_of_ble_eq_true rfl) (qc_rml (by decide) (by decide)) ⟨Nat.zero_le _, Nat.zero_le _⟩ ?_
  obtain ⟨rfl, rfl, rfl, rfl, rfl⟩ := qc_some5 h
  exact ⟨qc_fm.rf _, qc_goto (qc_at qkX12_does 29 rfl) <| qc_vret (qc_at qkX12_does 151 rfl) rfl (Nat.le_refl _) (Nat.le_refl _) (qc_eq.rf _ _ _)⟩
def fX12_does (w : qcW) (I : qTI) (L : qTL) (D : qTD) (R : qTR) (x1 : Int32) (x2 : Int32) : qcO Unit :=
  (if (10 : Int32) ≤ x1 then (if (20 : Int32) ≤ x1 then (if (30 : Int32) ≤ x1 then (if (900 : Int32) ≤ x1 then (if (1200 : Int32) ≤ x1 then (if (1400 : Int32) ≤ x1 then (if (1500 : Int32) ≤ x1 then (if (1600 : Int32) ≤ x1 then (if (1700 : Int32) ≤ x1 then (if (1800 : Int32) ≤ x1 then (qc_bd (fX12_goes w I L D R x1 x2) fun r12 I12 L12 D12 R12 => some ((), I12, L12, D12, R12)) else (qc_bd (fX12_functions w I L D R (x1 / (10 : Int32)) (x1 - x1 / (10 : Int32) * (10 : Int32))) fun r13 I13 L13 D13 R13 => some ((), I13, L13, D13, R13))) else (qc_bd (fX12_converts w I L D R ((x1 - (1600 : Int32)) / (10 : Int32)) (x1 - x1 / (10 : Int32) * (10 : Int32))) fun r14 I14 L14 D14 R14 => some ((), I14, L14, D14, R14))) else (qc_gd (qc_inb ((I 291 67) - (1 : Int32)) 32) <| qc_bd (fX12_isSo w I L D R (x1 - (1500 : Int32)) (L 328 (Int32.toNatClampNeg ((I 291 67) - (1 : Int32))))) fun r16 I16 L16 D16 R16 => if r16 = true then (qc_gd (qc_inb ((I 291 67) - (1 : Int32)) 32) <| some ((), I16, (qc_u L16 328 (Int32.toNatClampNeg ((I 291 67) - (1 : Int32))) (1 : Int64)), D16, R16)) else (qc_gd (qc_inb ((I 291 67) - (1 : Int32)) 32) <| some ((), I16, (qc_u L16 328 (Int32.toNatClampNeg ((I 291 67) - (1 : Int32))) (0 : Int64)), D16, R16)))) else (qc_bd (fX12_compares w I L D R (x1 - x1 / (100 : Int32) * (100 : Int32))) fun r20 I20 L20 D20 R20 => some ((), I20, L20, D20, R20))) else (qc_bd (fX12_turns w I L D R (x1 / (100 : Int32)) (x1 - x1 / (100 : Int32) * (100 : Int32))) fun r21 I21 L21 D21 R21 => some ((), I21, L21, D21, R21))) else (qc_bd (fX12_shifts w I L D R (x1 / (100 : Int32)) (x1 - x1 / (100 : Int32) * (100 : Int32))) fun r22 I22 L22 D22 R22 => some ((), I22, L22, D22, R22))) else (qc_bd (fX12_joins_ w I L D R (x1 / (100 : Int32)) (x1 - x1 / (100 : Int32) * (100 : Int32))) fun r23 I23 L23 D23 R23 => some ((), I23, L23, D23, R23))) else (qc_bd (fX12_stores w I L D R (x1 - (20 : Int32)) x2) fun r24 I24 L24 D24 R24 => some ((), I24, L24, D24, R24))) else (qc_bd (fX12_loads w I L D R (x1 - (10 : Int32)) x2) fun r25 I25 L25 D25 R25 => some ((), I25, L25, D25, R25))) else (if x1 = (2 : Int32) then (qc_gd (qc_inb (((100 : Int32) * (I 291 72)) + x2) 1200) <| qc_bd (fX12_laysReal w I L D R (D 305 (Int32.toNatClampNeg (((100 : Int32) * (I 291 72)) + x2)))) fun r29 I29 L29 D29 R29 => some ((), I29, L29, D29, R29)) else (if x1 = (1 : Int32) then (fX12_does_b48 w I L D R (Int32.toInt64 x2)) else (fX12_does_b48 w I L D R (Int32.toInt64 (I 291 71))))))
set_option maxRecDepth 100000 in
set_option maxHeartbeats 4000000 in
theorem tX12_does {w : qcW} {I : qTI} {L : qTL} {D : qTD} {R : qTR} {x1 : Int32} {x2 : Int32} {r : Unit} {I' : qTI} {L' : qTL} {D' : qTD} {R' : qTR} (hn : qcNF ≤ w.1) (hR : qc_FR R) (h : fX12_does w I L D R x1 x2 = some (r, I', L', D', R')) : qc_fm qcSM (I, L, D, R) (I', L', D', R') ∧ qc_V (4) 0 0 qmX12_does [.ref 291, .int x1, .int x2] w (I, L, D, R) (qc_eq none w (I', L', D', R')) := by
  unfold fX12_does at h
  refine And.imp_right (fun hx => qc_V.of rfl rfl (Nat.le_of_ble_eq_true rfl) (lv := [(0, .ref 291), (1, .int x1), (2, .int x2)]) rfl hx) ?_
  refine And.imp_right (fun hx => qc_iload_n (qc_at qkX12_does 0 rfl) rfl <| qc_bipush (qc_at qkX12_does 1 rfl) <| hx) ?_
  refine qc_andC (qc_icmp_ge (qc_at qkX12_does 2 rfl)) (fun u2 => ?_) (fun u2 => ?_)
  · replace h := qc_jp u2 h
    refine And.imp_right (fun hx => qc_iload_n (qc_at qkX12_does 30 rfl) rfl <| qc_bipush (qc_at qkX12_does 31 rfl) <| hx) ?_
    refine qc_andC (qc_icmp_ge (qc_at qkX12_does 32 rfl)) (fun u3 => ?_) (fun u3 => ?_)
    · replace h := qc_jp u3 h
      refine And.imp_right (fun hx => qc_iload_n (qc_at qkX12_does 40 rfl) rfl <| qc_bipush (qc_at qkX12_does 41 rfl) <| hx) ?_
      refine qc_andC (qc_icmp_ge (qc_at qkX12_does 42 rfl)) (fun u4 => ?_) (fun u4 => ?_)
      · replace h := qc_jp u4 h
        refine And.imp_right (fun hx => qc_iload_n (qc_at qkX12_does 50 rfl) rfl <| qc_sipush (qc_at qkX12_does 51 rfl) <| hx) ?_
        refine qc_andC (qc_icmp_ge (qc_at qkX12_does 52 rfl)) (fun u5 => ?_) (fun u5 => ?_)
        · replace h := qc_jp u5 h
          refine And.imp_right (fun hx => qc_iload_n (qc_at qkX12_does 62 rfl) rfl <| qc_sipush (qc_at qkX12_does 63 rfl) <| hx) ?_
          refine qc_andC (qc_icmp_ge (qc_at qkX12_does 64 rfl)) (fun u6 => ?_) (fun u6 => ?_)
          · replace h := qc_jp u6 h
            refine And.imp_right (fun hx => qc_iload_n (qc_at qkX12_does 74 rfl) rfl <| qc_sipush (qc_at qkX12_does 75 rfl) <| hx) ?_
            refine qc_andC (qc_icmp_ge (qc_at qkX12_does 76 rfl)) (fun u7 => ?_) (fun u7 => ?_)
            · replace h := qc_jp u7 h
              refine And.imp_right (fun hx => qc_iload_n (qc_at qkX12_does 86 rfl) rfl <| qc_sipush (qc_at qkX12_does 87 rfl) <| hx) ?_
              refine qc_andC (qc_icmp_ge (qc_at qkX12_does 88 rfl)) (fun u8 => ?_) (fun u8 => ?_)
              · replace h := qc_jp u8 h
                refine And.imp_right (fun hx => qc_iload_n (qc_at qkX12_does 95 rfl) rfl <| qc_sipush (qc_at qkX12_does 96 rfl) <| hx) ?_
                refine qc_andC (qc_icmp_ge (qc_at qkX12_does 97 rfl)) (fun u9 => ?_) (fun u9 => ?_)
                · replace h := qc_jp u9 h
                  refine And.imp_right (fun hx => qc_iload_n (qc_at qkX12_does 121 rfl) rfl <| qc_sipush (qc_at qkX12_does 122 rfl) <| hx) ?_
                  refine qc_andC (qc_icmp_ge (qc_at qkX12_does 123 rfl)) (fun u10 => ?_) (fun u10 => ?_)
                  · replace h := qc_jp u10 h
                    refine And.imp_right (fun hx => qc_iload_n (qc_at qkX12_does 135 rfl) rfl <| qc_sipush (qc_at qkX12_does 136 rfl) <| hx) ?_
                    refine qc_andC (qc_icmp_ge (qc_at qkX12_does 137 rfl)) (fun u11 => ?_) (fun u11 => ?_)
                    · replace h := qc_jp u11 h
                      refine And.imp_right (fun hx => qc_aload_n (qc_at qkX12_does 147 rfl) rfl <| qc_iload_n (qc_at qkX12_does 148 rfl) rfl <| qc_iload_n (qc_at qkX12_does 149 rfl) rfl <| hx) ?_
                      obtain ⟨r12, I12, L12, D12, R12, e12, h⟩ := qc_bd_of h
                      have c12 := (tX12_goes hn hR e12)
                      refine qd_cVn (ci := 10) (a0 := 291) (qc_at qkX12_does 150 rfl) ql_12_698 qfX12_goes (qc_kf hn rfl) rfl c12 rfl rfl (Nat.le_of_ble_eq_true rfl) (qc_rml (by decide) (by decide)) ⟨Nat.zero_le _, Nat.zero_le _⟩ ?_
                      obtain ⟨rfl, rfl, rfl, rfl, rfl⟩ := qc_some5 h
                      exact ⟨qc_fm.rf _, qc_vret (qc_at qkX12_does 151 rfl) rfl (Nat.le_refl _) (Nat.le_refl _) (qc_eq.rf _ _ _)⟩
                    · replace h := qc_jn u11 h
                      refine And.imp_right (fun hx => qc_aload_n (qc_at qkX12_does 138 rfl) rfl <| qc_iload_n (qc_at qkX12_does 139 rfl) rfl <| qc_bipush (qc_at qkX12_does 140 rfl) <| qc_idiv (qc_at qkX12_does 141 rfl) (by decide) <| qc_iload_n (qc_at qkX12_does 142 rfl) rfl <| qc_bipush (qc_at qkX12_does 143 rfl) <| qc_irem (qc_at qkX12_does 144 rfl) (by decide) <| hx) ?_
                      obtain ⟨r13, I13, L13, D13, R13, e13, h⟩ := qc_bd_of h
                      have c13 := (tX12_functions hn hR e13)
                      refine qd_cVn (ci := 10) (a0 := 291) (qc_at qkX12_does 145 rfl) ql_12_695 qfX12_functions (qc_kf hn rfl) rfl c13 rfl rfl (Nat.le_of_ble_eq_true rfl) (qc_rml (by decide) (by decide)) ⟨Nat.zero_le _, Nat.zero_le _⟩ ?_
                      obtain ⟨rfl, rfl, rfl, rfl, rfl⟩ := qc_some5 h
                      exact ⟨qc_fm.rf _, qc_goto (qc_at qkX12_does 146 rfl) <| qc_vret (qc_at qkX12_does 151 rfl) rfl (Nat.le_refl _) (Nat.le_refl _) (qc_eq.rf _ _ _)⟩
                  · replace h := qc_jn u10 h
                    refine And.imp_right (fun hx => qc_aload_n (qc_at qkX12_does 124 rfl) rfl <| qc_iload_n (qc_at qkX12_does 125 rfl) rfl <| qc_sipush (qc_at qkX12_does 126 rfl) <| qc_isub (qc_at qkX12_does 127 rfl) <| qc_bipush (qc_at qkX12_does 128 rfl) <| qc_idiv (qc_at qkX12_does 129 rfl) (by decide) <| qc_iload_n (qc_at qkX12_does 130 rfl) rfl <| qc_bipush (qc_at qkX12_does 131 rfl) <| qc_irem (qc_at qkX12_does 132 rfl) (by decide) <| hx) ?_
                    obtain ⟨r14, I14, L14, D14, R14, e14, h⟩ := qc_bd_of h
                    have c14 := (tX12_converts hn hR e14)
                    refine qd_cVn (ci := 10) (a0 := 291) (qc_at qkX12_does 133 rfl) ql_12_692 qfX12_converts (qc_kf hn rfl) rfl c14 rfl rfl (Nat.le_of_ble_eq_true rfl) (qc_rml (by decide) (by decide)) ⟨Nat.zero_le _, Nat.zero_le _⟩ ?_
                    obtain ⟨rfl, rfl, rfl, rfl, rfl⟩ := qc_some5 h
                    exact ⟨qc_fm.rf _, qc_goto (qc_at qkX12_does 134 rfl) <| qc_vret (qc_at qkX12_does 151 rfl) rfl (Nat.le_refl _) (Nat.le_refl _) (qc_eq.rf _ _ _)⟩
                · replace h := qc_jn u9 h
                  refine And.imp_right (fun hx => qc_aload_n (qc_at qkX12_does 98 rfl) rfl <| qc_gR (qc_at qkX12_does 99 rfl) hn rfl (qfr_291_65 hR) rfl <| qc_aload_n (qc_at qkX12_does 100 rfl) rfl <| qc_gI (qc_at qkX12_does 101 rfl) hn rfl <| qc_iconst (qc_at qkX12_does 102 rfl) <| qc_isub (qc_at qkX12_does 103 rfl) <| qc_iload_n (qc_at qkX12_does 104 rfl) rfl <| qc_sipush (qc_at qkX12_does 105 rfl) <| qc_isub (qc_at qkX12_does 106 rfl) <| qc_aload_n (qc_at qkX12_does 107 rfl) rfl <| qc_gR (qc_at qkX12_does 108 rfl) hn rfl (qfr_291_65 hR) rfl <| qc_aload_n (qc_at qkX12_does 109 rfl) rfl <| qc_gI (qc_at qkX12_does 110 rfl) hn rfl <| qc_iconst (qc_at qkX12_does 111 rfl) <| qc_isub (qc_at qkX12_does 112 rfl) <| hx) ?_
                  obtain ⟨g15, h⟩ := qc_gd_of h
                  refine And.imp_right (fun hx => qc_lald 32 (qc_at qkX12_does 113 rfl) hn rfl (qc_inb_in g15) <| hx) ?_
                  obtain ⟨r16, I16, L16, D16, R16, e16, h⟩ := qc_bd_of h
                  have c16 := (tX12_isSo hn hR e16)
                  refine qd_cSv (qc_at qkX12_does 114 rfl) ql_12_688 qfX12_isSo c16 rfl rfl (Nat.le_of_ble_eq_true rfl) (qc_rml (by decide) (by decide)) ⟨Nat.zero_le _, Nat.zero_le _⟩ ?_
                  refine qc_andB (qc_ifB_eq (qc_at qkX12_does 115 rfl)) (fun u17 => ?_) (fun u17 => ?_)
                  · replace h := qc_jf u17 h
                    refine And.imp_right (fun hx => qc_lconst (qc_at qkX12_does 118 rfl) <| hx) ?_
                    obtain ⟨g18, h⟩ := qc_gd_of h
                    refine qd_last 32 (qc_at qkX12_does 119 rfl) hn rfl (qc_inb_in g18) rfl ?_
                    obtain ⟨rfl, rfl, rfl, rfl, rfl⟩ := qc_some5 h
                    exact ⟨qc_fm.rf _, qc_goto (qc_at qkX12_does 120 rfl) <| qc_vret (qc_at qkX12_does 151 rfl) rfl (Nat.le_refl _) (Nat.le_refl _) (qc_eq.rf _ _ _)⟩
                  · replace h := qc_jt u17 h
                    refine And.imp_right (fun hx => qc_lconst (qc_at qkX12_does 116 rfl) <| qc_goto (qc_at qkX12_does 117 rfl) <| hx) ?_
                    obtain ⟨g19, h⟩ := qc_gd_of h
                    refine qd_last 32 (qc_at qkX12_does 119 rfl) hn rfl (qc_inb_in g19) rfl ?_
                    obtain ⟨rfl, rfl, rfl, rfl, rfl⟩ := qc_some5 h
                    exact ⟨qc_fm.rf _, qc_goto (qc_at qkX12_does 120 rfl) <| qc_vret (qc_at qkX12_does 151 rfl) rfl (Nat.le_refl _) (Nat.le_refl _) (qc_eq.rf _ _ _)⟩
              · replace h := qc_jn u8 h
                refine And.imp_right (fun hx => qc_aload_n (qc_at qkX12_does 89 rfl) rfl <| qc_iload_n (qc_at qkX12_does 90 rfl) rfl <| qc_bipush (qc_at qkX12_does 91 rfl) <| qc_irem (qc_at qkX12_does 92 rfl) (by decide) <| hx) ?_
                obtain ⟨r20, I20, L20, D20, R20, e20, h⟩ := qc_bd_of h
                have c20 := (tX12_compares hn hR e20)
                refine qd_cVn (ci := 10) (a0 := 291) (qc_at qkX12_does 93 rfl) ql_12_685 qfX12_compares (qc_kf hn rfl) rfl c20 rfl rfl (Nat.le_of_ble_eq_true rfl) (qc_rml (by decide) (by decide)) ⟨Nat.zero_le _, Nat.zero_le _⟩ ?_
                obtain ⟨rfl, rfl, rfl, rfl, rfl⟩ := qc_some5 h
                exact ⟨qc_fm.rf _, qc_goto (qc_at qkX12_does 94 rfl) <| qc_vret (qc_at qkX12_does 151 rfl) rfl (Nat.le_refl _) (Nat.le_refl _) (qc_eq.rf _ _ _)⟩
            · replace h := qc_jn u7 h
              refine And.imp_right (fun hx => qc_aload_n (qc_at qkX12_does 77 rfl) rfl <| qc_iload_n (qc_at qkX12_does 78 rfl) rfl <| qc_bipush (qc_at qkX12_does 79 rfl) <| qc_idiv (qc_at qkX12_does 80 rfl) (by decide) <| qc_iload_n (qc_at qkX12_does 81 rfl) rfl <| qc_bipush (qc_at qkX12_does 82 rfl) <| qc_irem (qc_at qkX12_does 83 rfl) (by decide) <| hx) ?_
              obtain ⟨r21, I21, L21, D21, R21, e21, h⟩ := qc_bd_of h
              have c21 := (tX12_turns hn hR e21)
              refine qd_cVn (ci := 10) (a0 := 291) (qc_at qkX12_does 84 rfl) ql_12_682 qfX12_turns (qc_kf hn rfl) rfl c21 rfl rfl (Nat.le_of_ble_eq_true rfl) (qc_rml (by decide) (by decide)) ⟨Nat.zero_le _, Nat.zero_le _⟩ ?_
              obtain ⟨rfl, rfl, rfl, rfl, rfl⟩ := qc_some5 h
              exact ⟨qc_fm.rf _, qc_goto (qc_at qkX12_does 85 rfl) <| qc_vret (qc_at qkX12_does 151 rfl) rfl (Nat.le_refl _) (Nat.le_refl _) (qc_eq.rf _ _ _)⟩
          · replace h := qc_jn u6 h
            refine And.imp_right (fun hx => qc_aload_n (qc_at qkX12_does 65 rfl) rfl <| qc_iload_n (qc_at qkX12_does 66 rfl) rfl <| qc_bipush (qc_at qkX12_does 67 rfl) <| qc_idiv (qc_at qkX12_does 68 rfl) (by decide) <| qc_iload_n (qc_at qkX12_does 69 rfl) rfl <| qc_bipush (qc_at qkX12_does 70 rfl) <| qc_irem (qc_at qkX12_does 71 rfl) (by decide) <| hx) ?_
            obtain ⟨r22, I22, L22, D22, R22, e22, h⟩ := qc_bd_of h
            have c22 := (tX12_shifts hn hR e22)
            refine qd_cVn (ci := 10) (a0 := 291) (qc_at qkX12_does 72 rfl) ql_12_679 qfX12_shifts (qc_kf hn rfl) rfl c22 rfl rfl (Nat.le_of_ble_eq_true rfl) (qc_rml (by decide) (by decide)) ⟨Nat.zero_le _, Nat.zero_le _⟩ ?_
            obtain ⟨rfl, rfl, rfl, rfl, rfl⟩ := qc_some5 h
            exact ⟨qc_fm.rf _, qc_goto (qc_at qkX12_does 73 rfl) <| qc_vret (qc_at qkX12_does 151 rfl) rfl (Nat.le_refl _) (Nat.le_refl _) (qc_eq.rf _ _ _)⟩
        · replace h := qc_jn u5 h
          refine And.imp_right (fun hx => qc_aload_n (qc_at qkX12_does 53 rfl) rfl <| qc_iload_n (qc_at qkX12_does 54 rfl) rfl <| qc_bipush (qc_at qkX12_does 55 rfl) <| qc_idiv (qc_at qkX12_does 56 rfl) (by decide) <| qc_iload_n (qc_at qkX12_does 57 rfl) rfl <| qc_bipush (qc_at qkX12_does 58 rfl) <| qc_irem (qc_at qkX12_does 59 rfl) (by decide) <| hx) ?_
          obtain ⟨r23, I23, L23, D23, R23, e23, h⟩ := qc_bd_of h
          have c23 := (tX12_joins_ hn hR e23)
          refine qd_cVn (ci := 10) (a0 := 291) (qc_at qkX12_does 60 rfl) ql_12_677 qfX12_joins_ (qc_kf hn rfl) rfl c23 rfl rfl (Nat.le_of_ble_eq_true rfl) (qc_rml (by decide) (by decide)) ⟨Nat.zero_le _, Nat.zero_le _⟩ ?_
          obtain ⟨rfl, rfl, rfl, rfl, rfl⟩ := qc_some5 h
          exact ⟨qc_fm.rf _, qc_goto (qc_at qkX12_does 61 rfl) <| qc_vret (qc_at qkX12_does 151 rfl) rfl (Nat.le_refl _) (Nat.le_refl _) (qc_eq.rf _ _ _)⟩
      · replace h := qc_jn u4 h
        refine And.imp_right (fun hx => qc_aload_n (qc_at qkX12_does 43 rfl) rfl <| qc_iload_n (qc_at qkX12_does 44 rfl) rfl <| qc_bipush (qc_at qkX12_does 45 rfl) <| qc_isub (qc_at qkX12_does 46 rfl) <| qc_iload_n (qc_at qkX12_does 47 rfl) rfl <| hx) ?_
        obtain ⟨r24, I24, L24, D24, R24, e24, h⟩ := qc_bd_of h
        have c24 := (tX12_stores hn hR e24)
        refine qd_cVn (ci := 10) (a0 := 291) (qc_at qkX12_does 48 rfl) ql_12_674 qfX12_stores (qc_kf hn rfl) rfl c24 rfl rfl (Nat.le_of_ble_eq_true rfl) (qc_rml (by decide) (by decide)) ⟨Nat.zero_le _, Nat.zero_le _⟩ ?_
        obtain ⟨rfl, rfl, rfl, rfl, rfl⟩ := qc_some5 h
        exact ⟨qc_fm.rf _, qc_goto (qc_at qkX12_does 49 rfl) <| qc_vret (qc_at qkX12_does 151 rfl) rfl (Nat.le_refl _) (Nat.le_refl _) (qc_eq.rf _ _ _)⟩
    · replace h := qc_jn u3 h
      refine And.imp_right (fun hx => qc_aload_n (qc_at qkX12_does 33 rfl) rfl <| qc_iload_n (qc_at qkX12_does 34 rfl) rfl <| qc_bipush (qc_at qkX12_does 35 rfl) <| qc_isub (qc_at qkX12_does 36 rfl) <| qc_iload_n (qc_at qkX12_does 37 rfl) rfl <| hx) ?_
      obtain ⟨r25, I25, L25, D25, R25, e25, h⟩ := qc_bd_of h
      have c25 := (tX12_loads hn hR e25)
      refine qd_cVn (ci := 10) (a0 := 291) (qc_at qkX12_does 38 rfl) ql_12_671 qfX12_loads (qc_kf hn rfl) rfl c25 rfl rfl (Nat.le_of_ble_eq_true rfl) (qc_rml (by decide) (by decide)) ⟨Nat.zero_le _, Nat.zero_le _⟩ ?_
      obtain ⟨rfl, rfl, rfl, rfl, rfl⟩ := qc_some5 h
      exact ⟨qc_fm.rf _, qc_goto (qc_at qkX12_does 39 rfl) <| qc_vret (qc_at qkX12_does 151 rfl) rfl (Nat.le_refl _) (Nat.le_refl _) (qc_eq.rf _ _ _)⟩
  · replace h := qc_jn u2 h
    refine And.imp_right (fun hx => qc_iload_n (qc_at qkX12_does 3 rfl) rfl <| qc_iconst (qc_at qkX12_does 4 rfl) <| hx) ?_
    refine qc_andN (qc_icmp_ne (qc_at qkX12_does 5 rfl)) (fun u26 => ?_) (fun u26 => ?_)
    · replace h := qc_jn u26 h
      refine And.imp_right (fun hx => qc_aload_n (qc_at qkX12_does 18 rfl) rfl <| qc_iload_n (qc_at qkX12_does 19 rfl) rfl <| qc_iconst (qc_at qkX12_does 20 rfl) <| hx) ?_
      refine qc_andN (qc_icmp_ne (qc_at qkX12_does 21 rfl)) (fun u27 => ?_) (fun u27 => ?_)
      · replace h := qc_jn u27 h
        exact And.imp_right (fun hx => qc_aload_n (qc_at qkX12_does 25 rfl) rfl <| qc_gI (qc_at qkX12_does 26 rfl) hn rfl <| qc_i2l (qc_at qkX12_does 27 rfl) <| qc_sub [] rfl hx) (tX12_does_b48 hn hR h)
      · replace h := qc_jp u27 h
        exact And.imp_right (fun hx => qc_iload_n (qc_at qkX12_does 22 rfl) rfl <| qc_i2l (qc_at qkX12_does 23 rfl) <| qc_goto (qc_at qkX12_does 24 rfl) <| qc_sub [] rfl hx) (tX12_does_b48 hn hR h)
    · replace h := qc_jp u26 h
      refine And.imp_right (fun hx => qc_aload_n (qc_at qkX12_does 6 rfl) rfl <| qc_aload_n (qc_at qkX12_does 7 rfl) rfl <| qc_gR (qc_at qkX12_does 8 rfl) hn rfl (qfr_291_27 hR) rfl <| qc_bipush (qc_at qkX12_does 9 rfl) <| qc_aload_n (qc_at qkX12_does 10 rfl) rfl <| qc_gI (qc_at qkX12_does 11 rfl) hn rfl <| qc_imul (qc_at qkX12_does 12 rfl) <| qc_iload_n (qc_at qkX12_does 13 rfl) rfl <| qc_iadd (qc_at qkX12_does 14 rfl) <| hx) ?_
      obtain ⟨g28, h⟩ := qc_gd_of h
      refine And.imp_right (fun hx => qc_dald 1200 (qc_at qkX12_does 15 rfl) hn rfl (qc_inb_in g28) <| hx) ?_
      obtain ⟨r29, I29, L29, D29, R29, e29, h⟩ := qc_bd_of h
      have c29 := (tX12_laysReal hn hR e29)
      refine qd_cVn (ci := 10) (a0 := 291) (qc_at qkX12_does 16 rfl) ql_12_623 qfX12_laysReal (qc_kf hn rfl) rfl c29 rfl rfl (Nat.le_of_ble_eq_true rfl) (qc_rml (by decide) (by decide)) ⟨Nat.zero_le _, Nat.zero_le _⟩ ?_
      obtain ⟨rfl, rfl, rfl, rfl, rfl⟩ := qc_some5 h
      exact ⟨qc_fm.rf _, qc_goto (qc_at qkX12_does 17 rfl) <| qc_vret (qc_at qkX12_does 151 rfl) rfl (Nat.le_refl _) (Nat.le_refl _) (qc_eq.rf _ _ _)⟩
def fX12_works_b39 (w : qcW) (k39 : qTI × qTL × qTD × qTR × Int32 × Int32 × Int32 → qcO Bool) (I : qTI) (L : qTL) (D : qTD) (R : qTR) (x1 : Int32) (x2 : Int32) (x3 : Int32) : qcO Bool :=
  (if x2 ≤ (I 291 68) then (some (true, I, L, D, R)) else (qc_gd (qc_inb (x3 + (I 291 68)) 7200) <| qc_gd (qc_inb (x3 + (I 291 68)) 7200) <| qc_bd (fX12_does w (qc_u I 291 68 ((I 291 68) + (1 : Int32))) L D R ((qc_u I 291 68 ((I 291 68) + (1 : Int32))) 315 (Int32.toNatClampNeg (x3 + (I 291 68)))) ((qc_u I 291 68 ((I 291 68) + (1 : Int32))) 316 (Int32.toNatClampNeg (x3 + (I 291 68))))) fun r4 I4 L4 D4 R4 => if (I4 291 69) ≤ 0 then (k39 (I4, (qc_u L4 291 70 ((L4 291 70) + (1 : Int64))), D4, R4, x1, x2, x3)) else (some (false, (qc_u (qc_u I4 291 79 x1) 291 80 (I 291 68)), L4, D4, R4))))
set_option maxRecDepth 100000 in
set_option maxHeartbeats 4000000 in
theorem tX12_works_b39 {w : qcW} {I : qTI} {L : qTL} {D : qTD} {R : qTR} {k39 : qTI × qTL × qTD × qTR × Int32 × Int32 × Int32 → qcO Bool} {x1 : Int32} {x2 : Int32} {x3 : Int32} {r : Bool} {I' : qTI} {L' : qTL} {D' : qTD} {R' : qTR} (hn : qcNF ≤ w.1) (hR : qc_FR R) (hk39 : ∀ {I : qTI} {L : qTL} {D : qTD} {R : qTR} {x1 : Int32} {x2 : Int32} {x3 : Int32} {r : Bool} {I' : qTI} {L' : qTL} {D' : qTD} {R' : qTR}, qc_FR R → k39 (I, L, D, R, x1, x2, x3) = some (r, I', L', D', R') → qc_fm qcSM (I, L, D, R) (I', L', D', R') ∧ qc_X (qc_rm (5) 0 0) qmX12_works (qc_QM 0 0 (qc_eq (some (.int (qc_b r))) w (I', L', D', R'))) 0 0 w (39, [(0, .ref 291), (1, .int x1), (2, .int x2), (3, .int x3)], [], I, L, D, R)) (h : fX12_works_b39 w k39 I L D R x1 x2 x3 = some (r, I', L', D', R')) : qc_fm qcSM (I, L, D, R) (I', L', D', R') ∧ qc_X (qc_rm (5) 0 0) qmX12_works (qc_QM 0 0 (qc_eq (some (.int (qc_b r))) w (I', L', D', R'))) 0 0 w (39, [(0, .ref 291), (1, .int x1), (2, .int x2), (3, .int x3)], [], I, L, D, R) := by
  unfold fX12_works_b39 at h
  refine And.imp_right (fun hx => qc_aload_n (qc_at qkX12_works 25 rfl) rfl <| qc_gI (qc_at qkX12_works 26 rfl) hn rfl <| qc_iload_n (qc_at qkX12_works 27 rfl) rfl <| hx) ?_
  refine qc_andC (qc_icmp_ge (qc_at qkX12_works 28 rfl)) (fun u1 => ?_) (fun u1 => ?_)
  · replace h := qc_jp u1 h
    obtain ⟨rfl, rfl, rfl, rfl, rfl⟩ := qc_some5 h
    exact ⟨qc_fm.rf _, qc_iconst (qc_at qkX12_works 70 rfl) <| qc_zret (qc_at qkX12_works 71 rfl) rfl (Or.inr rfl) (Nat.le_refl _) (Nat.le_refl _) ⟨rfl, rfl, rfl⟩⟩
  · replace h := qc_jn u1 h
    refine And.imp_right (fun hx => qc_aload_n (qc_at qkX12_works 29 rfl) rfl <| qc_gI (qc_at qkX12_works 30 rfl) hn rfl <| qc_istore (lv' := [(4, _), (0, _), (1, _), (2, _), (3, _)]) (qc_at qkX12_works 31 rfl) rfl rfl <| qc_aload_n (qc_at qkX12_works 32 rfl) rfl <| qc_dup (qc_at qkX12_works 33 rfl) rfl <| qc_gI (qc_at qkX12_works 34 rfl) hn rfl <| qc_iconst (qc_at qkX12_works 35 rfl) <| qc_iadd (qc_at qkX12_works 36 rfl) <| hx) (qd_pI (qc_at qkX12_works 37 rfl) hn rfl rfl ?_)
    refine And.imp_right (fun hx => qc_aload_n (qc_at qkX12_works 38 rfl) rfl <| qc_aload_n (qc_at qkX12_works 39 rfl) rfl <| qc_gR (qc_at qkX12_works 40 rfl) hn rfl (qfr_291_41 hR) rfl <| qc_iload_n (qc_at qkX12_works 41 rfl) rfl <| qc_iload (qc_at qkX12_works 42 rfl) rfl <| qc_iadd (qc_at qkX12_works 43 rfl) <| hx) ?_
    obtain ⟨g2, h⟩ := qc_gd_of h
    refine And.imp_right (fun hx => qc_iald 7200 (qc_at qkX12_works 44 rfl) hn rfl (qc_inb_in g2) <| qc_aload_n (qc_at qkX12_works 45 rfl) rfl <| qc_gR (qc_at qkX12_works 46 rfl) hn rfl (qfr_291_42 hR) rfl <| qc_iload_n (qc_at qkX12_works 47 rfl) rfl <| qc_iload (qc_at qkX12_works 48 rfl) rfl <| qc_iadd (qc_at qkX12_works 49 rfl) <| hx) ?_
    obtain ⟨g3, h⟩ := qc_gd_of h
    refine And.imp_right (fun hx => qc_iald 7200 (qc_at qkX12_works 50 rfl) hn rfl (qc_inb_in g3) <| hx) ?_
    obtain ⟨r4, I4, L4, D4, R4, e4, h⟩ := qc_bd_of h
    have c4 := (tX12_does hn hR e4)
    refine qd_cVn (ci := 10) (a0 := 291) (qc_at qkX12_works 51 rfl) ql_12_701 qfX12_does (qc_kf hn rfl) rfl c4 rfl rfl (Nat.le_of_ble_eq_true rfl) (qc_rml (by decide) (by decide)) ⟨Nat.zero_le _, Nat.zero_le _⟩ ?_
    refine And.imp_right (fun hx => qc_aload_n (qc_at qkX12_works 52 rfl) rfl <| qc_gI (qc_at qkX12_works 53 rfl) hn rfl <| hx) ?_
    refine qc_andC (qc_if_le (qc_at qkX12_works 54 rfl)) (fun u5 => ?_) (fun u5 => ?_)
    · replace h := qc_jp u5 h
      refine And.imp_right (fun hx => qc_aload_n (qc_at qkX12_works 63 rfl) rfl <| qc_dup (qc_at qkX12_works 64 rfl) rfl <| qc_gL (qc_at qkX12_works 65 rfl) hn rfl <| qc_lconst (qc_at qkX12_works 66 rfl) <| qc_ladd (qc_at qkX12_works 67 rfl) <| hx) (qd_pL (qc_at qkX12_works 68 rfl) hn rfl rfl ?_)
      exact And.imp_right (fun hx => qc_goto (qc_at qkX12_works 69 rfl) <| qc_sub [1, 2, 3, 4] rfl hx) (hk39 (c4.1.1 hR) h)
    · replace h := qc_jn u5 h
      refine And.imp_right (fun hx => qc_aload_n (qc_at qkX12_works 55 rfl) rfl <| qc_iload_n (qc_at qkX12_works 56 rfl) rfl <| hx) (qd_pI (qc_at qkX12_works 57 rfl) hn rfl rfl ?_)
      refine And.imp_right (fun hx => qc_aload_n (qc_at qkX12_works 58 rfl) rfl <| qc_iload (qc_at qkX12_works 59 rfl) rfl <| hx) (qd_pI (qc_at qkX12_works 60 rfl) hn rfl rfl ?_)
      obtain ⟨rfl, rfl, rfl, rfl, rfl⟩ := qc_some5 h
      exact ⟨qc_fm.rf _, qc_iconst (qc_at qkX12_works 61 rfl) <| qc_zret (qc_at qkX12_works 62 rfl) rfl (Or.inl rfl) (Nat.le_refl _) (Nat.le_refl _) ⟨rfl, rfl, rfl⟩⟩
def fX12_works_l39 (w : qcW) : Nat → qTI × qTL × qTD × qTR × Int32 × Int32 × Int32 → qcO Bool := qc_lp (fun k q => match q with | (I, L, D, R, x1, x2, x3) => fX12_works_b39 w k I L D R x1 x2 x3)
set_option maxRecDepth 100000 in
set_option maxHeartbeats 4000000 in
theorem tX12_works_l39 {w : qcW} (hn : qcNF ≤ w.1) : ∀ (n : Nat) {r : Bool} {I' : qTI} {L' : qTL} {D' : qTD} {R' : qTR} {I : qTI} {L : qTL} {D : qTD} {R : qTR} {x1 : Int32} {x2 : Int32} {x3 : Int32} (hR : qc_FR R) (h : fX12_works_l39 w n (I, L, D, R, x1, x2, x3) = some (r, I', L', D', R')), qc_fm qcSM (I, L, D, R) (I', L', D', R') ∧ qc_X (qc_rm (5) 0 0) qmX12_works (qc_QM 0 0 (qc_eq (some (.int (qc_b r))) w (I', L', D', R'))) 0 0 w (39, [(0, .ref 291), (1, .int x1), (2, .int x2), (3, .int x3)], [], I, L, D, R) := by
  intro n
  induction n with
  | zero => intro _ _ _ _ _ _ _ _ _ _ _ _ _ h; cases h
  | succ n ih => intro _ _ _ _ _ _ _ _ _ _ _ _ hR h; exact tX12_works_b39 hn hR (k39 := fX12_works_l39 w n) (fun hR h => ih hR h) h
def fX12_works (w : qcW) (I : qTI) (L : qTL) (D : qTD) (R : qTR) (x1 : Int32) : qcO Bool :=
  (qc_gd (qc_inb (((3 : Int32) * (I 291 72)) + x1) 36) <| fX12_works_l39 w qcF ((qc_u (qc_u I 291 67 (0 : Int32)) 291 68 (0 : Int32)), L, D, R, x1, (I 317 (Int32.toNatClampNeg (((3 : Int32) * (I 291 72)) + x1))), (((600 : Int32) * (I 291 72)) + ((200 : Int32) * x1))))
set_option maxRecDepth 100000 in
set_option maxHeartbeats 4000000 in
theorem tX12_works {w : qcW} {I : qTI} {L : qTL} {D : qTD} {R : qTR} {x1 : Int32} {r : Bool} {I' : qTI} {L' : qTL} {D' : qTD} {R' : qTR} (hn : qcNF ≤ w.1) (hR : qc_FR R) (h : fX12_works w I L D R x1 = some (r, I', L', D', R')) : qc_fm qcSM (I, L, D, R) (I', L', D', R') ∧ qc_V (5) 0 0 qmX12_works [.ref 291, .int x1] w (I, L, D, R) (qc_eq (some (.int (qc_b r))) w (I', L', D', R')) := by
  unfold fX12_works at h
  refine And.imp_right (fun hx => qc_V.of rfl rfl (Nat.le_of_ble_eq_true rfl) (lv := [(0, .ref 291), (1, .int x1)]) rfl hx) ?_
  refine And.imp_right (fun hx => qc_aload_n (qc_at qkX12_works 0 rfl) rfl <| qc_gR (qc_at qkX12_works 1 rfl) hn rfl (qfr_291_43 hR) rfl <| qc_iconst (qc_at qkX12_works 2 rfl) <| qc_aload_n (qc_at qkX12_works 3 rfl) rfl <| qc_gI (qc_at qkX12_works 4 rfl) hn rfl <| qc_imul (qc_at qkX12_works 5 rfl) <| qc_iload_n (qc_at qkX12_works 6 rfl) rfl <| qc_iadd (qc_at qkX12_works 7 rfl) <| hx) ?_
  obtain ⟨g6, h⟩ := qc_gd_of h
  refine And.imp_right (fun hx => qc_iald 36 (qc_at qkX12_works 8 rfl) hn rfl (qc_inb_in g6) <| qc_istore_n (lv' := [(2, _), (0, _), (1, _)]) (qc_at qkX12_works 9 rfl) rfl rfl <| qc_sipush (qc_at qkX12_works 10 rfl) <| qc_aload_n (qc_at qkX12_works 11 rfl) rfl <| qc_gI (qc_at qkX12_works 12 rfl) hn rfl <| qc_imul (qc_at qkX12_works 13 rfl) <| qc_sipush (qc_at qkX12_works 14 rfl) <| qc_iload_n (qc_at qkX12_works 15 rfl) rfl <| qc_imul (qc_at qkX12_works 16 rfl) <| qc_iadd (qc_at qkX12_works 17 rfl) <| qc_istore_n (lv' := [(3, _), (2, _), (0, _), (1, _)]) (qc_at qkX12_works 18 rfl) rfl rfl <| qc_aload_n (qc_at qkX12_works 19 rfl) rfl <| qc_iconst (qc_at qkX12_works 20 rfl) <| hx) (qd_pI (qc_at qkX12_works 21 rfl) hn rfl rfl ?_)
  refine And.imp_right (fun hx => qc_aload_n (qc_at qkX12_works 22 rfl) rfl <| qc_iconst (qc_at qkX12_works 23 rfl) <| hx) (qd_pI (qc_at qkX12_works 24 rfl) hn rfl rfl ?_)
  exact And.imp_right (fun hx => qc_sub [2, 3, 1, 0] rfl hx) (tX12_works_l39 hn qcF hR h)
def fX12_fails (w : qcW) (I : qTI) (L : qTL) (D : qTD) (R : qTR) (x1 : Int32) : qcO Bool :=
  (some (false, (qc_u (qc_u (qc_u I 291 69 x1) 291 79 (3 : Int32)) 291 80 (0 : Int32)), L, D, R))
set_option maxRecDepth 100000 in
set_option maxHeartbeats 4000000 in
theorem tX12_fails {w : qcW} {I : qTI} {L : qTL} {D : qTD} {R : qTR} {x1 : Int32} {r : Bool} {I' : qTI} {L' : qTL} {D' : qTD} {R' : qTR} (hn : qcNF ≤ w.1) (hR : qc_FR R) (h : fX12_fails w I L D R x1 = some (r, I', L', D', R')) : qc_fm qcSM (I, L, D, R) (I', L', D', R') ∧ qc_V (0) 0 0 qmX12_fails [.ref 291, .int x1] w (I, L, D, R) (qc_eq (some (.int (qc_b r))) w (I', L', D', R')) := by
  unfold fX12_fails at h
  refine And.imp_right (fun hx => qc_V.of rfl rfl (Nat.le_of_ble_eq_true rfl) (lv := [(0, .ref 291), (1, .int x1)]) rfl hx) ?_
  refine And.imp_right (fun hx => qc_aload_n (qc_at qkX12_fails 0 rfl) rfl <| qc_iload_n (qc_at qkX12_fails 1 rfl) rfl <| hx) (qd_pI (qc_at qkX12_fails 2 rfl) hn rfl rfl ?_)
  refine And.imp_right (fun hx => qc_aload_n (qc_at qkX12_fails 3 rfl) rfl <| qc_iconst (qc_at qkX12_fails 4 rfl) <| hx) (qd_pI (qc_at qkX12_fails 5 rfl) hn rfl rfl ?_)
  refine And.imp_right (fun hx => qc_aload_n (qc_at qkX12_fails 6 rfl) rfl <| qc_iconst (qc_at qkX12_fails 7 rfl) <| hx) (qd_pI (qc_at qkX12_fails 8 rfl) hn rfl rfl ?_)
  obtain ⟨rfl, rfl, rfl, rfl, rfl⟩ := qc_some5 h
  exact ⟨qc_fm.rf _, qc_iconst (qc_at qkX12_fails 9 rfl) <| qc_zret (qc_at qkX12_fails 10 rfl) rfl (Or.inl rfl) (Nat.le_refl _) (Nat.le_refl _) ⟨rfl, rfl, rfl⟩⟩
def fX12_hit (w : qcW) (I : qTI) (L : qTL) (D : qTD) (R : qTR) (x1 : Int32) (x2 : UInt64) : qcO Unit :=
  (qc_gd (qc_inb (I 291 81) 16) <| qc_gd (qc_inb ((qc_u I 333 (Int32.toNatClampNeg (I 291 81)) x1) 291 81) 16) <| some ((), (qc_u (qc_u I 333 (Int32.toNatClampNeg (I 291 81)) x1) 291 81 (((qc_u I 333 (Int32.toNatClampNeg (I 291 81)) x1) 291 81) + (1 : Int32))), L, (qc_u D 334 (Int32.toNatClampNeg ((qc_u I 333 (Int32.toNatClampNeg (I 291 81)) x1) 291 81)) x2), R))
set_option maxRecDepth 100000 in
set_option maxHeartbeats 4000000 in
theorem tX12_hit {w : qcW} {I : qTI} {L : qTL} {D : qTD} {R : qTR} {x1 : Int32} {x2 : UInt64} {r : Unit} {I' : qTI} {L' : qTL} {D' : qTD} {R' : qTR} (hn : qcNF ≤ w.1) (hR : qc_FR R) (h : fX12_hit w I L D R x1 x2 = some (r, I', L', D', R')) : qc_fm qcSM (I, L, D, R) (I', L', D', R') ∧ qc_V (0) 0 0 qmX12_hit [.ref 291, .int x1, .double x2] w (I, L, D, R) (qc_eq none w (I', L', D', R')) := by
  unfold fX12_hit at h
  refine And.imp_right (fun hx => qc_V.of rfl rfl (Nat.le_of_ble_eq_true rfl) (lv := [(0, .ref 291), (1, .int x1), (2, .double x2)]) rfl hx) ?_
  refine And.imp_right (fun hx => qc_aload_n (qc_at qkX12_hit 0 rfl) rfl <| qc_gR (qc_at qkX12_hit 1 rfl) hn rfl (qfr_291_83 hR) rfl <| qc_aload_n (qc_at qkX12_hit 2 rfl) rfl <| qc_gI (qc_at qkX12_hit 3 rfl) hn rfl <| qc_iload_n (qc_at qkX12_hit 4 rfl) rfl <| hx) ?_
  obtain ⟨g1, h⟩ := qc_gd_of h
  refine qd_iast 16 (qc_at qkX12_hit 5 rfl) hn rfl (qc_inb_in g1) rfl ?_
  refine And.imp_right (fun hx => qc_aload_n (qc_at qkX12_hit 6 rfl) rfl <| qc_gR (qc_at qkX12_hit 7 rfl) hn rfl (qfr_291_84 hR) rfl <| qc_aload_n (qc_at qkX12_hit 8 rfl) rfl <| qc_gI (qc_at qkX12_hit 9 rfl) hn rfl <| qc_dload_n (qc_at qkX12_hit 10 rfl) rfl <| hx) ?_
  obtain ⟨g2, h⟩ := qc_gd_of h
  refine qd_dast 16 (qc_at qkX12_hit 11 rfl) hn rfl (qc_inb_in g2) rfl ?_
  refine And.imp_right (fun hx => qc_aload_n (qc_at qkX12_hit 12 rfl) rfl <| qc_dup (qc_at qkX12_hit 13 rfl) rfl <| qc_gI (qc_at qkX12_hit 14 rfl) hn rfl <| qc_iconst (qc_at qkX12_hit 15 rfl) <| qc_iadd (qc_at qkX12_hit 16 rfl) <| hx) (qd_pI (qc_at qkX12_hit 17 rfl) hn rfl rfl ?_)
  obtain ⟨rfl, rfl, rfl, rfl, rfl⟩ := qc_some5 h
  exact ⟨qc_fm.rf _, qc_vret (qc_at qkX12_hit 18 rfl) rfl (Nat.le_refl _) (Nat.le_refl _) (qc_eq.rf _ _ _)⟩
def fX12_folds_b389 (w : qcW) (I : qTI) (L : qTL) (D : qTD) (R : qTR) (x7 : Int32) : qcO Bool :=
  (qc_gd (qc_inb x7 16) <| qc_gd (qc_inb x7 16) <| some (true, (qc_u I 333 (Int32.toNatClampNeg x7) ((I 333 (Int32.toNatClampNeg x7)) + (1 : Int32))), L, D, R))
set_option maxRecDepth 100000 in
set_option maxHeartbeats 4000000 in
theorem tX12_folds_b389 {w : qcW} {I : qTI} {L : qTL} {D : qTD} {R : qTR} {x7 : Int32} {r : Bool} {I' : qTI} {L' : qTL} {D' : qTD} {R' : qTR} (hn : qcNF ≤ w.1) (hR : qc_FR R) (h : fX12_folds_b389 w I L D R x7 = some (r, I', L', D', R')) : qc_fm qcSM (I, L, D, R) (I', L', D', R') ∧ qc_X (qc_rm (2) 0 0) qmX12_folds (qc_QM 0 0 (qc_eq (some (.int (qc_b r))) w (I', L', D', R'))) 0 0 w (389, [(0, .ref 291), (7, .int x7)], [], I, L, D, R) := by
  unfold fX12_folds_b389 at h
  refine And.imp_right (fun hx => qc_aload_n (qc_at qkX12_folds 208 rfl) rfl <| qc_gR (qc_at qkX12_folds 209 rfl) hn rfl (qfr_291_83 hR) rfl <| qc_iload (qc_at qkX12_folds 210 rfl) rfl <| qc_dup2_11 (qc_at qkX12_folds 211 rfl) rfl rfl <| hx) ?_
  obtain ⟨g1, h⟩ := qc_gd_of h
  refine And.imp_right (fun hx => qc_iald 16 (qc_at qkX12_folds 212 rfl) hn rfl (qc_inb_in g1) <| qc_iconst (qc_at qkX12_folds 213 rfl) <| qc_iadd (qc_at qkX12_folds 214 rfl) <| hx) ?_
  obtain ⟨g2, h⟩ := qc_gd_of h
  refine qd_iast 16 (qc_at qkX12_folds 215 rfl) hn rfl (qc_inb_in g2) rfl ?_
  obtain ⟨rfl, rfl, rfl, rfl, rfl⟩ := qc_some5 h
  exact ⟨qc_fm.rf _, qc_iconst (qc_at qkX12_folds 216 rfl) <| qc_zret (qc_at qkX12_folds 217 rfl) rfl (Or.inr rfl) (Nat.le_refl _) (Nat.le_refl _) ⟨rfl, rfl, rfl⟩⟩
def fX12_folds_b195 (w : qcW) (I : qTI) (L : qTL) (D : qTD) (R : qTR) (x5 : UInt64) (x7 : Int32) : qcO Bool :=
  (qc_gd (qc_inb x7 8) <| qc_bd (fX12_isNone w I L D R (1 : Int32) (D 337 (Int32.toNatClampNeg x7)) x5) fun r4 I4 L4 D4 R4 => if r4 = true then (qc_bd (fX12_fails w I4 L4 D4 R4 (5 : Int32)) fun r9 I9 L9 D9 R9 => some (r9, I9, L9, D9, R9)) else (qc_gd (qc_inb x7 8) <| qc_gd (qc_n64 (FP.dadd (D4 337 (Int32.toNatClampNeg x7)) x5)) <| qc_gd (qc_inb x7 8) <| fX12_folds_b389 w I4 L4 (qc_u D4 337 (Int32.toNatClampNeg x7) (FP.dadd (D4 337 (Int32.toNatClampNeg x7)) x5)) R4 x7))
set_option maxRecDepth 100000 in
set_option maxHeartbeats 4000000 in
theorem tX12_folds_b195 {w : qcW} {I : qTI} {L : qTL} {D : qTD} {R : qTR} {x5 : UInt64} {x7 : Int32} {r : Bool} {I' : qTI} {L' : qTL} {D' : qTD} {R' : qTR} (hn : qcNF ≤ w.1) (hR : qc_FR R) (h : fX12_folds_b195 w I L D R x5 x7 = some (r, I', L', D', R')) : qc_fm qcSM (I, L, D, R) (I', L', D', R') ∧ qc_X (qc_rm (2) 0 0) qmX12_folds (qc_QM 0 0 (qc_eq (some (.int (qc_b r))) w (I', L', D', R'))) 0 0 w (195, [(0, .ref 291), (5, .double x5), (7, .int x7)], [], I, L, D, R) := by
  unfold fX12_folds_b195 at h
  refine And.imp_right (fun hx => qc_iconst (qc_at qkX12_folds 105 rfl) <| qc_aload_n (qc_at qkX12_folds 106 rfl) rfl <| qc_gR (qc_at qkX12_folds 107 rfl) hn rfl (qfr_291_87 hR) rfl <| qc_iload (qc_at qkX12_folds 108 rfl) rfl <| hx) ?_
  obtain ⟨g3, h⟩ := qc_gd_of h
  refine And.imp_right (fun hx => qc_dald 8 (qc_at qkX12_folds 109 rfl) hn rfl (qc_inb_in g3) <| qc_dload (qc_at qkX12_folds 110 rfl) rfl <| hx) ?_
  obtain ⟨r4, I4, L4, D4, R4, e4, h⟩ := qc_bd_of h
  have c4 := (tX12_isNone hn hR e4)
  refine qd_cSv (qc_at qkX12_folds 111 rfl) ql_12_638 qfX12_isNone c4 rfl rfl (Nat.le_of_ble_eq_true rfl) (qc_rml (by decide) (by decide)) ⟨Nat.zero_le _, Nat.zero_le _⟩ ?_
  refine qc_andB (qc_ifB_eq (qc_at qkX12_folds 112 rfl)) (fun u5 => ?_) (fun u5 => ?_)
  · replace h := qc_jf u5 h
    refine And.imp_right (fun hx => qc_aload_n (qc_at qkX12_folds 117 rfl) rfl <| qc_gR (qc_at qkX12_folds 118 rfl) hn rfl (qfr_291_87 (c4.1.1 hR)) rfl <| qc_iload (qc_at qkX12_folds 119 rfl) rfl <| qc_dup2_11 (qc_at qkX12_folds 120 rfl) rfl rfl <| hx) ?_
    obtain ⟨g6, h⟩ := qc_gd_of h
    refine And.imp_right (fun hx => qc_dald 8 (qc_at qkX12_folds 121 rfl) hn rfl (qc_inb_in g6) <| qc_dload (qc_at qkX12_folds 122 rfl) rfl <| hx) ?_
    obtain ⟨g7, h⟩ := qc_gd_of h
    replace g7 := qc_n64_of g7
    refine And.imp_right (fun hx => qc_dadd (qc_at qkX12_folds 123 rfl) g7 <| hx) ?_
    obtain ⟨g8, h⟩ := qc_gd_of h
    refine qd_dast 8 (qc_at qkX12_folds 124 rfl) hn rfl (qc_inb_in g8) rfl ?_
    exact And.imp_right (fun hx => qc_goto (qc_at qkX12_folds 125 rfl) <| qc_sub [0, 2] rfl hx) (tX12_folds_b389 hn (c4.1.1 hR) h)
  · replace h := qc_jt u5 h
    refine And.imp_right (fun hx => qc_aload_n (qc_at qkX12_folds 113 rfl) rfl <| qc_iconst (qc_at qkX12_folds 114 rfl) <| hx) ?_
    obtain ⟨r9, I9, L9, D9, R9, e9, h⟩ := qc_bd_of h
    have c9 := (tX12_fails hn (c4.1.1 hR) e9)
    refine qd_cVv (ci := 10) (a0 := 291) (qc_at qkX12_folds 115 rfl) ql_12_710 qfX12_fails (qc_kf hn rfl) rfl c9 rfl rfl (Nat.le_of_ble_eq_true rfl) (qc_rml (by decide) (by decide)) ⟨Nat.zero_le _, Nat.zero_le _⟩ ?_
    obtain ⟨rfl, rfl, rfl, rfl, rfl⟩ := qc_some5 h
    exact ⟨qc_fm.rf _, qc_zret (qc_at qkX12_folds 116 rfl) rfl (qc_b01 _) (Nat.le_refl _) (Nat.le_refl _) (qc_eq.rf _ _ _)⟩
def fX12_folds_b301 (w : qcW) (I : qTI) (L : qTL) (D : qTD) (R : qTR) (x7 : Int32) (s0 : UInt64) (s1 : Int32) : qcO Bool :=
  (qc_gd (qc_inb s1 8) <| fX12_folds_b389 w I L (qc_u D 337 (Int32.toNatClampNeg s1) s0) R x7)
set_option maxRecDepth 100000 in
set_option maxHeartbeats 4000000 in
theorem tX12_folds_b301 {w : qcW} {I : qTI} {L : qTL} {D : qTD} {R : qTR} {x7 : Int32} {s0 : UInt64} {s1 : Int32} {r : Bool} {I' : qTI} {L' : qTL} {D' : qTD} {R' : qTR} (hn : qcNF ≤ w.1) (hR : qc_FR R) (h : fX12_folds_b301 w I L D R x7 s0 s1 = some (r, I', L', D', R')) : qc_fm qcSM (I, L, D, R) (I', L', D', R') ∧ qc_X (qc_rm (2) 0 0) qmX12_folds (qc_QM 0 0 (qc_eq (some (.int (qc_b r))) w (I', L', D', R'))) 0 0 w (301, [(0, .ref 291), (7, .int x7)], [.double s0, .int s1, .ref 337], I, L, D, R) := by
  unfold fX12_folds_b301 at h
  obtain ⟨g10, h⟩ := qc_gd_of h
  refine qd_dast 8 (qc_at qkX12_folds 161 rfl) hn rfl (qc_inb_in g10) rfl ?_
  exact And.imp_right (fun hx => qc_goto (qc_at qkX12_folds 162 rfl) <| qc_sub [0, 1] rfl hx) (tX12_folds_b389 hn hR h)
def fX12_folds_b272 (w : qcW) (I : qTI) (L : qTL) (D : qTD) (R : qTR) (x5 : UInt64) (x7 : Int32) (x9 : Int32) (s0 : Int64) (s1 : Int32) : qcO Bool :=
  (qc_gd (qc_inb s1 8) <| if x9 = 0 then (qc_gd (qc_inb x7 8) <| qc_bd (fX12_lesser w I (qc_u L 336 (Int32.toNatClampNeg s1) s0) D R (D 337 (Int32.toNatClampNeg x7)) x5) fun r14 I14 L14 D14 R14 => fX12_folds_b301 w I14 L14 D14 R14 x7 r14 x7) else (fX12_folds_b301 w I (qc_u L 336 (Int32.toNatClampNeg s1) s0) D R x7 x5 x7))
set_option maxRecDepth 100000 in
set_option maxHeartbeats 4000000 in
theorem tX12_folds_b272 {w : qcW} {I : qTI} {L : qTL} {D : qTD} {R : qTR} {x5 : UInt64} {x7 : Int32} {x9 : Int32} {s0 : Int64} {s1 : Int32} {r : Bool} {I' : qTI} {L' : qTL} {D' : qTD} {R' : qTR} (hn : qcNF ≤ w.1) (hR : qc_FR R) (h : fX12_folds_b272 w I L D R x5 x7 x9 s0 s1 = some (r, I', L', D', R')) : qc_fm qcSM (I, L, D, R) (I', L', D', R') ∧ qc_X (qc_rm (2) 0 0) qmX12_folds (qc_QM 0 0 (qc_eq (some (.int (qc_b r))) w (I', L', D', R'))) 0 0 w (272, [(0, .ref 291), (5, .double x5), (7, .int x7), (9, .int x9)], [.long s0, .int s1, .ref 336], I, L, D, R) := by
  unfold fX12_folds_b272 at h
  obtain ⟨g11, h⟩ := qc_gd_of h
  refine qd_last 8 (qc_at qkX12_folds 147 rfl) hn rfl (qc_inb_in g11) rfl ?_
  refine And.imp_right (fun hx => qc_aload_n (qc_at qkX12_folds 148 rfl) rfl <| qc_gR (qc_at qkX12_folds 149 rfl) hn rfl (qfr_291_87 hR) rfl <| qc_iload (qc_at qkX12_folds 150 rfl) rfl <| qc_iload (qc_at qkX12_folds 151 rfl) rfl <| hx) ?_
  refine qc_andC (qc_if_eq (qc_at qkX12_folds 152 rfl)) (fun u12 => ?_) (fun u12 => ?_)
  · replace h := qc_jp u12 h
    refine And.imp_right (fun hx => qc_aload_n (qc_at qkX12_folds 155 rfl) rfl <| qc_gR (qc_at qkX12_folds 156 rfl) hn rfl (qfr_291_87 hR) rfl <| qc_iload (qc_at qkX12_folds 157 rfl) rfl <| hx) ?_
    obtain ⟨g13, h⟩ := qc_gd_of h
    refine And.imp_right (fun hx => qc_dald 8 (qc_at qkX12_folds 158 rfl) hn rfl (qc_inb_in g13) <| qc_dload (qc_at qkX12_folds 159 rfl) rfl <| hx) ?_
    obtain ⟨r14, I14, L14, D14, R14, e14, h⟩ := qc_bd_of h
    have c14 := (tX12_lesser hn hR e14)
    refine qd_cSv (qc_at qkX12_folds 160 rfl) ql_12_655 qfX12_lesser c14 rfl rfl (Nat.le_of_ble_eq_true rfl) (qc_rml (by decide) (by decide)) ⟨Nat.zero_le _, Nat.zero_le _⟩ ?_
    exact And.imp_right (fun hx => qc_sub [0, 2] rfl hx) (tX12_folds_b301 hn (c14.1.1 hR) h)
  · replace h := qc_jn u12 h
    exact And.imp_right (fun hx => qc_dload (qc_at qkX12_folds 153 rfl) rfl <| qc_goto (qc_at qkX12_folds 154 rfl) <| qc_sub [0, 2] rfl hx) (tX12_folds_b301 hn hR h)
def fX12_folds_b261 (w : qcW) (I : qTI) (L : qTL) (D : qTD) (R : qTR) (x3 : Int64) (x5 : UInt64) (x7 : Int32) (x9 : Int32) (s0 : Int32) : qcO Bool :=
  (fX12_folds_b272 w I L D R x5 x7 x9 x3 s0)
set_option maxRecDepth 100000 in
set_option maxHeartbeats 4000000 in
theorem tX12_folds_b261 {w : qcW} {I : qTI} {L : qTL} {D : qTD} {R : qTR} {x3 : Int64} {x5 : UInt64} {x7 : Int32} {x9 : Int32} {s0 : Int32} {r : Bool} {I' : qTI} {L' : qTL} {D' : qTD} {R' : qTR} (hn : qcNF ≤ w.1) (hR : qc_FR R) (h : fX12_folds_b261 w I L D R x3 x5 x7 x9 s0 = some (r, I', L', D', R')) : qc_fm qcSM (I, L, D, R) (I', L', D', R') ∧ qc_X (qc_rm (2) 0 0) qmX12_folds (qc_QM 0 0 (qc_eq (some (.int (qc_b r))) w (I', L', D', R'))) 0 0 w (261, [(0, .ref 291), (3, .long x3), (5, .double x5), (7, .int x7), (9, .int x9)], [.int s0, .ref 336], I, L, D, R) := by
  unfold fX12_folds_b261 at h
  exact And.imp_right (fun hx => qc_lload_n (qc_at qkX12_folds 141 rfl) rfl <| qc_goto (qc_at qkX12_folds 142 rfl) <| qc_sub [0, 2, 3, 4] rfl hx) (tX12_folds_b272 hn hR h)
def fX12_folds_b374 (w : qcW) (I : qTI) (L : qTL) (D : qTD) (R : qTR) (x7 : Int32) (s0 : UInt64) (s1 : Int32) : qcO Bool :=
  (qc_gd (qc_inb s1 8) <| fX12_folds_b389 w I L (qc_u D 337 (Int32.toNatClampNeg s1) s0) R x7)
set_option maxRecDepth 100000 in
set_option maxHeartbeats 4000000 in
theorem tX12_folds_b374 {w : qcW} {I : qTI} {L : qTL} {D : qTD} {R : qTR} {x7 : Int32} {s0 : UInt64} {s1 : Int32} {r : Bool} {I' : qTI} {L' : qTL} {D' : qTD} {R' : qTR} (hn : qcNF ≤ w.1) (hR : qc_FR R) (h : fX12_folds_b374 w I L D R x7 s0 s1 = some (r, I', L', D', R')) : qc_fm qcSM (I, L, D, R) (I', L', D', R') ∧ qc_X (qc_rm (2) 0 0) qmX12_folds (qc_QM 0 0 (qc_eq (some (.int (qc_b r))) w (I', L', D', R'))) 0 0 w (374, [(0, .ref 291), (7, .int x7)], [.double s0, .int s1, .ref 337], I, L, D, R) := by
  unfold fX12_folds_b374 at h
  obtain ⟨g15, h⟩ := qc_gd_of h
  refine qd_dast 8 (qc_at qkX12_folds 198 rfl) hn rfl (qc_inb_in g15) rfl ?_
  exact And.imp_right (fun hx => qc_goto (qc_at qkX12_folds 199 rfl) <| qc_sub [0, 1] rfl hx) (tX12_folds_b389 hn hR h)
def fX12_folds_b345 (w : qcW) (I : qTI) (L : qTL) (D : qTD) (R : qTR) (x5 : UInt64) (x7 : Int32) (x9 : Int32) (s0 : Int64) (s1 : Int32) : qcO Bool :=
  (qc_gd (qc_inb s1 8) <| if x9 = 0 then (qc_gd (qc_inb x7 8) <| qc_bd (fX12_greater w I (qc_u L 336 (Int32.toNatClampNeg s1) s0) D R (D 337 (Int32.toNatClampNeg x7)) x5) fun r19 I19 L19 D19 R19 => fX12_folds_b374 w I19 L19 D19 R19 x7 r19 x7) else (fX12_folds_b374 w I (qc_u L 336 (Int32.toNatClampNeg s1) s0) D R x7 x5 x7))
set_option maxRecDepth 100000 in
set_option maxHeartbeats 4000000 in
theorem tX12_folds_b345 {w : qcW} {I : qTI} {L : qTL} {D : qTD} {R : qTR} {x5 : UInt64} {x7 : Int32} {x9 : Int32} {s0 : Int64} {s1 : Int32} {r : Bool} {I' : qTI} {L' : qTL} {D' : qTD} {R' : qTR} (hn : qcNF ≤ w.1) (hR : qc_FR R) (h : fX12_folds_b345 w I L D R x5 x7 x9 s0 s1 = some (r, I', L', D', R')) : qc_fm qcSM (I, L, D, R) (I', L', D', R') ∧ qc_X (qc_rm (2) 0 0) qmX12_folds (qc_QM 0 0 (qc_eq (some (.int (qc_b r))) w (I', L', D', R'))) 0 0 w (345, [(0, .ref 291), (5, .double x5), (7, .int x7), (9, .int x9)], [.long s0, .int s1, .ref 336], I, L, D, R) := by
  unfold fX12_folds_b345 at h
  obtain ⟨g16, h⟩ := qc_gd_of h
  refine qd_last 8 (qc_at qkX12_folds 184 rfl) hn rfl (qc_inb_in g16) rfl ?_
  refine And.imp_right (fun hx => qc_aload_n (qc_at qkX12_folds 185 rfl) rfl <| qc_gR (qc_at qkX12_folds 186 rfl) hn rfl (qfr_291_87 hR) rfl <| qc_iload (qc_at qkX12_folds 187 rfl) rfl <| qc_iload (qc_at qkX12_folds 188 rfl) rfl <| hx) ?_
  refine qc_andC (qc_if_eq (qc_at qkX12_folds 189 rfl)) (fun u17 => ?_) (fun u17 => ?_)
  · replace h := qc_jp u17 h
    refine And.imp_right (fun hx => qc_aload_n (qc_at qkX12_folds 192 rfl) rfl <| qc_gR (qc_at qkX12_folds 193 rfl) hn rfl (qfr_291_87 hR) rfl <| qc_iload (qc_at qkX12_folds 194 rfl) rfl <| hx) ?_
    obtain ⟨g18, h⟩ := qc_gd_of h
    refine And.imp_right (fun hx => qc_dald 8 (qc_at qkX12_folds 195 rfl) hn rfl (qc_inb_in g18) <| qc_dload (qc_at qkX12_folds 196 rfl) rfl <| hx) ?_
    obtain ⟨r19, I19, L19, D19, R19, e19, h⟩ := qc_bd_of h
    have c19 := (tX12_greater hn hR e19)
    refine qd_cSv (qc_at qkX12_folds 197 rfl) ql_12_659 qfX12_greater c19 rfl rfl (Nat.le_of_ble_eq_true rfl) (qc_rml (by decide) (by decide)) ⟨Nat.zero_le _, Nat.zero_le _⟩ ?_
    exact And.imp_right (fun hx => qc_sub [0, 2] rfl hx) (tX12_folds_b374 hn (c19.1.1 hR) h)
  · replace h := qc_jn u17 h
    exact And.imp_right (fun hx => qc_dload (qc_at qkX12_folds 190 rfl) rfl <| qc_goto (qc_at qkX12_folds 191 rfl) <| qc_sub [0, 2] rfl hx) (tX12_folds_b374 hn hR h)
def fX12_folds_b334 (w : qcW) (I : qTI) (L : qTL) (D : qTD) (R : qTR) (x3 : Int64) (x5 : UInt64) (x7 : Int32) (x9 : Int32) (s0 : Int32) : qcO Bool :=
  (fX12_folds_b345 w I L D R x5 x7 x9 x3 s0)
set_option maxRecDepth 100000 in
set_option maxHeartbeats 4000000 in
theorem tX12_folds_b334 {w : qcW} {I : qTI} {L : qTL} {D : qTD} {R : qTR} {x3 : Int64} {x5 : UInt64} {x7 : Int32} {x9 : Int32} {s0 : Int32} {r : Bool} {I' : qTI} {L' : qTL} {D' : qTD} {R' : qTR} (hn : qcNF ≤ w.1) (hR : qc_FR R) (h : fX12_folds_b334 w I L D R x3 x5 x7 x9 s0 = some (r, I', L', D', R')) : qc_fm qcSM (I, L, D, R) (I', L', D', R') ∧ qc_X (qc_rm (2) 0 0) qmX12_folds (qc_QM 0 0 (qc_eq (some (.int (qc_b r))) w (I', L', D', R'))) 0 0 w (334, [(0, .ref 291), (3, .long x3), (5, .double x5), (7, .int x7), (9, .int x9)], [.int s0, .ref 336], I, L, D, R) := by
  unfold fX12_folds_b334 at h
  exact And.imp_right (fun hx => qc_lload_n (qc_at qkX12_folds 178 rfl) rfl <| qc_goto (qc_at qkX12_folds 179 rfl) <| qc_sub [0, 2, 3, 4] rfl hx) (tX12_folds_b345 hn hR h)
def fX12_folds_b183 (w : qcW) (I : qTI) (L : qTL) (D : qTD) (R : qTR) (x3 : Int64) (x5 : UInt64) (x7 : Int32) (x9 : Int32) (x11 : Int32) : qcO Bool :=
  (if x11 = (1 : Int32) then (fX12_folds_b195 w I L D R x5 x7) else (if x11 = (4 : Int32) then (fX12_folds_b195 w I L D R x5 x7) else (if x11 = (2 : Int32) then (if x9 = 0 then (qc_gd (qc_inb x7 8) <| if 0 ≤ (lg_cmp x3 (L 336 (Int32.toNatClampNeg x7))) then (qc_gd (qc_inb x7 8) <| fX12_folds_b272 w I L D R x5 x7 x9 (L 336 (Int32.toNatClampNeg x7)) x7) else (fX12_folds_b261 w I L D R x3 x5 x7 x9 x7)) else (fX12_folds_b261 w I L D R x3 x5 x7 x9 x7)) else (if x11 = (3 : Int32) then (if x9 = 0 then (qc_gd (qc_inb x7 8) <| if (lg_cmp x3 (L 336 (Int32.toNatClampNeg x7))) ≤ 0 then (qc_gd (qc_inb x7 8) <| fX12_folds_b345 w I L D R x5 x7 x9 (L 336 (Int32.toNatClampNeg x7)) x7) else (fX12_folds_b334 w I L D R x3 x5 x7 x9 x7)) else (fX12_folds_b334 w I L D R x3 x5 x7 x9 x7)) else (qc_gd (qc_inb x7 8) <| qc_gd (qc_inb x7 8) <| fX12_folds_b389 w I (qc_u L 336 (Int32.toNatClampNeg x7) ((L 336 (Int32.toNatClampNeg x7)) + (1 : Int64))) D R x7)))))
set_option maxRecDepth 100000 in
set_option maxHeartbeats 4000000 in
theorem tX12_folds_b183 {w : qcW} {I : qTI} {L : qTL} {D : qTD} {R : qTR} {x3 : Int64} {x5 : UInt64} {x7 : Int32} {x9 : Int32} {x11 : Int32} {r : Bool} {I' : qTI} {L' : qTL} {D' : qTD} {R' : qTR} (hn : qcNF ≤ w.1) (hR : qc_FR R) (h : fX12_folds_b183 w I L D R x3 x5 x7 x9 x11 = some (r, I', L', D', R')) : qc_fm qcSM (I, L, D, R) (I', L', D', R') ∧ qc_X (qc_rm (2) 0 0) qmX12_folds (qc_QM 0 0 (qc_eq (some (.int (qc_b r))) w (I', L', D', R'))) 0 0 w (183, [(0, .ref 291), (3, .long x3), (5, .double x5), (7, .int x7), (9, .int x9), (11, .int x11)], [], I, L, D, R) := by
  unfold fX12_folds_b183 at h
  refine And.imp_right (fun hx => qc_iload (qc_at qkX12_folds 99 rfl) rfl <| qc_iconst (qc_at qkX12_folds 100 rfl) <| hx) ?_
  refine qc_andC (qc_icmp_eq (qc_at qkX12_folds 101 rfl)) (fun u20 => ?_) (fun u20 => ?_)
  · replace h := qc_jp u20 h
    exact And.imp_right (fun hx => qc_sub [0, 2, 3] rfl hx) (tX12_folds_b195 hn hR h)
  · replace h := qc_jn u20 h
    refine And.imp_right (fun hx => qc_iload (qc_at qkX12_folds 102 rfl) rfl <| qc_iconst (qc_at qkX12_folds 103 rfl) <| hx) ?_
    refine qc_andN (qc_icmp_ne (qc_at qkX12_folds 104 rfl)) (fun u21 => ?_) (fun u21 => ?_)
    · replace h := qc_jn u21 h
      refine And.imp_right (fun hx => qc_iload (qc_at qkX12_folds 126 rfl) rfl <| qc_iconst (qc_at qkX12_folds 127 rfl) <| hx) ?_
      refine qc_andN (qc_icmp_ne (qc_at qkX12_folds 128 rfl)) (fun u22 => ?_) (fun u22 => ?_)
      · replace h := qc_jn u22 h
        refine And.imp_right (fun hx => qc_iload (qc_at qkX12_folds 163 rfl) rfl <| qc_iconst (qc_at qkX12_folds 164 rfl) <| hx) ?_
        refine qc_andN (qc_icmp_ne (qc_at qkX12_folds 165 rfl)) (fun u23 => ?_) (fun u23 => ?_)
        · replace h := qc_jn u23 h
          refine And.imp_right (fun hx => qc_aload_n (qc_at qkX12_folds 200 rfl) rfl <| qc_gR (qc_at qkX12_folds 201 rfl) hn rfl (qfr_291_86 hR) rfl <| qc_iload (qc_at qkX12_folds 202 rfl) rfl <| qc_dup2_11 (qc_at qkX12_folds 203 rfl) rfl rfl <| hx) ?_
          obtain ⟨g24, h⟩ := qc_gd_of h
          refine And.imp_right (fun hx => qc_lald 8 (qc_at qkX12_folds 204 rfl) hn rfl (qc_inb_in g24) <| qc_lconst (qc_at qkX12_folds 205 rfl) <| qc_ladd (qc_at qkX12_folds 206 rfl) <| hx) ?_
          obtain ⟨g25, h⟩ := qc_gd_of h
          refine qd_last 8 (qc_at qkX12_folds 207 rfl) hn rfl (qc_inb_in g25) rfl ?_
          exact And.imp_right (fun hx => qc_sub [0, 3] rfl hx) (tX12_folds_b389 hn hR h)
        · replace h := qc_jp u23 h
          refine And.imp_right (fun hx => qc_aload_n (qc_at qkX12_folds 166 rfl) rfl <| qc_gR (qc_at qkX12_folds 167 rfl) hn rfl (qfr_291_86 hR) rfl <| qc_iload (qc_at qkX12_folds 168 rfl) rfl <| qc_iload (qc_at qkX12_folds 169 rfl) rfl <| hx) ?_
          refine qc_andN (qc_if_ne (qc_at qkX12_folds 170 rfl)) (fun u26 => ?_) (fun u26 => ?_)
          · replace h := qc_jn u26 h
            exact And.imp_right (fun hx => qc_sub [0, 1, 2, 3, 4] rfl hx) (tX12_folds_b334 hn hR h)
          · replace h := qc_jp u26 h
            refine And.imp_right (fun hx => qc_lload_n (qc_at qkX12_folds 171 rfl) rfl <| qc_aload_n (qc_at qkX12_folds 172 rfl) rfl <| qc_gR (qc_at qkX12_folds 173 rfl) hn rfl (qfr_291_86 hR) rfl <| qc_iload (qc_at qkX12_folds 174 rfl) rfl <| hx) ?_
            obtain ⟨g27, h⟩ := qc_gd_of h
            refine And.imp_right (fun hx => qc_lald 8 (qc_at qkX12_folds 175 rfl) hn rfl (qc_inb_in g27) <| qc_lcmp (qc_at qkX12_folds 176 rfl) <| hx) ?_
            refine qc_andC (qc_if_le (qc_at qkX12_folds 177 rfl)) (fun u28 => ?_) (fun u28 => ?_)
            · replace h := qc_jp u28 h
              refine And.imp_right (fun hx => qc_aload_n (qc_at qkX12_folds 180 rfl) rfl <| qc_gR (qc_at qkX12_folds 181 rfl) hn rfl (qfr_291_86 hR) rfl <| qc_iload (qc_at qkX12_folds 182 rfl) rfl <| hx) ?_
              obtain ⟨g29, h⟩ := qc_gd_of h
              exact And.imp_right (fun hx => qc_lald 8 (qc_at qkX12_folds 183 rfl) hn rfl (qc_inb_in g29) <| qc_sub [0, 2, 3, 4] rfl hx) (tX12_folds_b345 hn hR h)
            · replace h := qc_jn u28 h
              exact And.imp_right (fun hx => qc_sub [0, 1, 2, 3, 4] rfl hx) (tX12_folds_b334 hn hR h)
      · replace h := qc_jp u22 h
        refine And.imp_right (fun hx => qc_aload_n (qc_at qkX12_folds 129 rfl) rfl <| qc_gR (qc_at qkX12_folds 130 rfl) hn rfl (qfr_291_86 hR) rfl <| qc_iload (qc_at qkX12_folds 131 rfl) rfl <| qc_iload (qc_at qkX12_folds 132 rfl) rfl <| hx) ?_
        refine qc_andN (qc_if_ne (qc_at qkX12_folds 133 rfl)) (fun u30 => ?_) (fun u30 => ?_)
        · replace h := qc_jn u30 h
          exact And.imp_right (fun hx => qc_sub [0, 1, 2, 3, 4] rfl hx) (tX12_folds_b261 hn hR h)
        · replace h := qc_jp u30 h
          refine And.imp_right (fun hx => qc_lload_n (qc_at qkX12_folds 134 rfl) rfl <| qc_aload_n (qc_at qkX12_folds 135 rfl) rfl <| qc_gR (qc_at qkX12_folds 136 rfl) hn rfl (qfr_291_86 hR) rfl <| qc_iload (qc_at qkX12_folds 137 rfl) rfl <| hx) ?_
          obtain ⟨g31, h⟩ := qc_gd_of h
          refine And.imp_right (fun hx => qc_lald 8 (qc_at qkX12_folds 138 rfl) hn rfl (qc_inb_in g31) <| qc_lcmp (qc_at qkX12_folds 139 rfl) <| hx) ?_
          refine qc_andC (qc_if_ge (qc_at qkX12_folds 140 rfl)) (fun u32 => ?_) (fun u32 => ?_)
          · replace h := qc_jp u32 h
            refine And.imp_right (fun hx => qc_aload_n (qc_at qkX12_folds 143 rfl) rfl <| qc_gR (qc_at qkX12_folds 144 rfl) hn rfl (qfr_291_86 hR) rfl <| qc_iload (qc_at qkX12_folds 145 rfl) rfl <| hx) ?_
            obtain ⟨g33, h⟩ := qc_gd_of h
            exact And.imp_right (fun hx => qc_lald 8 (qc_at qkX12_folds 146 rfl) hn rfl (qc_inb_in g33) <| qc_sub [0, 2, 3, 4] rfl hx) (tX12_folds_b272 hn hR h)
          · replace h := qc_jn u32 h
            exact And.imp_right (fun hx => qc_sub [0, 1, 2, 3, 4] rfl hx) (tX12_folds_b261 hn hR h)
    · replace h := qc_jp u21 h
      exact And.imp_right (fun hx => qc_sub [0, 2, 3] rfl hx) (tX12_folds_b195 hn hR h)
def fX12_folds_b133 (w : qcW) (I : qTI) (L : qTL) (D : qTD) (R : qTR) (x3 : Int64) (x5 : UInt64) (x7 : Int32) (s0 : Int32) : qcO Bool :=
  (qc_gd (qc_inb (I 291 72) 12) <| qc_gd (qc_inb (I 291 72) 12) <| if (I 321 (Int32.toNatClampNeg (I 291 72))) = (1 : Int32) then (if (I 322 (Int32.toNatClampNeg (I 291 72))) = (2 : Int32) then (qc_gd (qc_inb x7 8) <| qc_gd (qc_inb x7 8) <| fX12_folds_b389 w I (qc_u L 336 (Int32.toNatClampNeg x7) ((L 336 (Int32.toNatClampNeg x7)) + x3)) D R x7) else (fX12_folds_b183 w I L D R x3 x5 x7 s0 (I 321 (Int32.toNatClampNeg (I 291 72))))) else (fX12_folds_b183 w I L D R x3 x5 x7 s0 (I 321 (Int32.toNatClampNeg (I 291 72)))))
set_option maxRecDepth 100000 in
set_option maxHeartbeats 4000000 in
theorem tX12_folds_b133 {w : qcW} {I : qTI} {L : qTL} {D : qTD} {R : qTR} {x3 : Int64} {x5 : UInt64} {x7 : Int32} {s0 : Int32} {r : Bool} {I' : qTI} {L' : qTL} {D' : qTD} {R' : qTR} (hn : qcNF ≤ w.1) (hR : qc_FR R) (h : fX12_folds_b133 w I L D R x3 x5 x7 s0 = some (r, I', L', D', R')) : qc_fm qcSM (I, L, D, R) (I', L', D', R') ∧ qc_X (qc_rm (2) 0 0) qmX12_folds (qc_QM 0 0 (qc_eq (some (.int (qc_b r))) w (I', L', D', R'))) 0 0 w (133, [(0, .ref 291), (3, .long x3), (5, .double x5), (7, .int x7)], [.int s0], I, L, D, R) := by
  unfold fX12_folds_b133 at h
  refine And.imp_right (fun hx => qc_istore (lv' := [(9, _), (0, _), (3, _), (5, _), (7, _)]) (qc_at qkX12_folds 71 rfl) rfl rfl <| qc_aload_n (qc_at qkX12_folds 72 rfl) rfl <| qc_gR (qc_at qkX12_folds 73 rfl) hn rfl (qfr_291_48 hR) rfl <| qc_aload_n (qc_at qkX12_folds 74 rfl) rfl <| qc_gI (qc_at qkX12_folds 75 rfl) hn rfl <| hx) ?_
  obtain ⟨g34, h⟩ := qc_gd_of h
  refine And.imp_right (fun hx => qc_iald 12 (qc_at qkX12_folds 76 rfl) hn rfl (qc_inb_in g34) <| qc_istore (lv' := [(10, _), (9, _), (0, _), (3, _), (5, _), (7, _)]) (qc_at qkX12_folds 77 rfl) rfl rfl <| qc_aload_n (qc_at qkX12_folds 78 rfl) rfl <| qc_gR (qc_at qkX12_folds 79 rfl) hn rfl (qfr_291_47 hR) rfl <| qc_aload_n (qc_at qkX12_folds 80 rfl) rfl <| qc_gI (qc_at qkX12_folds 81 rfl) hn rfl <| hx) ?_
  obtain ⟨g35, h⟩ := qc_gd_of h
  refine And.imp_right (fun hx => qc_iald 12 (qc_at qkX12_folds 82 rfl) hn rfl (qc_inb_in g35) <| qc_istore (lv' := [(11, _), (10, _), (9, _), (0, _), (3, _), (5, _), (7, _)]) (qc_at qkX12_folds 83 rfl) rfl rfl <| qc_iload (qc_at qkX12_folds 84 rfl) rfl <| qc_iconst (qc_at qkX12_folds 85 rfl) <| hx) ?_
  refine qc_andN (qc_icmp_ne (qc_at qkX12_folds 86 rfl)) (fun u36 => ?_) (fun u36 => ?_)
  · replace h := qc_jn u36 h
    exact And.imp_right (fun hx => qc_sub [3, 4, 5, 6, 2, 0] rfl hx) (tX12_folds_b183 hn hR h)
  · replace h := qc_jp u36 h
    refine And.imp_right (fun hx => qc_iload (qc_at qkX12_folds 87 rfl) rfl <| qc_iconst (qc_at qkX12_folds 88 rfl) <| hx) ?_
    refine qc_andN (qc_icmp_ne (qc_at qkX12_folds 89 rfl)) (fun u37 => ?_) (fun u37 => ?_)
    · replace h := qc_jn u37 h
      exact And.imp_right (fun hx => qc_sub [3, 4, 5, 6, 2, 0] rfl hx) (tX12_folds_b183 hn hR h)
    · replace h := qc_jp u37 h
      refine And.imp_right (fun hx => qc_aload_n (qc_at qkX12_folds 90 rfl) rfl <| qc_gR (qc_at qkX12_folds 91 rfl) hn rfl (qfr_291_86 hR) rfl <| qc_iload (qc_at qkX12_folds 92 rfl) rfl <| qc_dup2_11 (qc_at qkX12_folds 93 rfl) rfl rfl <| hx) ?_
      obtain ⟨g38, h⟩ := qc_gd_of h
      refine And.imp_right (fun hx => qc_lald 8 (qc_at qkX12_folds 94 rfl) hn rfl (qc_inb_in g38) <| qc_lload_n (qc_at qkX12_folds 95 rfl) rfl <| qc_ladd (qc_at qkX12_folds 96 rfl) <| hx) ?_
      obtain ⟨g39, h⟩ := qc_gd_of h
      refine qd_last 8 (qc_at qkX12_folds 97 rfl) hn rfl (qc_inb_in g39) rfl ?_
      exact And.imp_right (fun hx => qc_goto (qc_at qkX12_folds 98 rfl) <| qc_sub [3, 6] rfl hx) (tX12_folds_b389 hn hR h)
def fX12_folds_b118 (w : qcW) (I : qTI) (L : qTL) (D : qTD) (R : qTR) (x3 : Int64) (x5 : UInt64) (x7 : Int32) : qcO Bool :=
  (qc_gd (qc_inb x7 16) <| if (I 333 (Int32.toNatClampNeg x7)) = 0 then (fX12_folds_b133 w I L D R x3 x5 x7 (1 : Int32)) else (fX12_folds_b133 w I L D R x3 x5 x7 (0 : Int32)))
set_option maxRecDepth 100000 in
set_option maxHeartbeats 4000000 in
theorem tX12_folds_b118 {w : qcW} {I : qTI} {L : qTL} {D : qTD} {R : qTR} {x3 : Int64} {x5 : UInt64} {x7 : Int32} {r : Bool} {I' : qTI} {L' : qTL} {D' : qTD} {R' : qTR} (hn : qcNF ≤ w.1) (hR : qc_FR R) (h : fX12_folds_b118 w I L D R x3 x5 x7 = some (r, I', L', D', R')) : qc_fm qcSM (I, L, D, R) (I', L', D', R') ∧ qc_X (qc_rm (2) 0 0) qmX12_folds (qc_QM 0 0 (qc_eq (some (.int (qc_b r))) w (I', L', D', R'))) 0 0 w (118, [(0, .ref 291), (3, .long x3), (5, .double x5), (7, .int x7)], [], I, L, D, R) := by
  unfold fX12_folds_b118 at h
  refine And.imp_right (fun hx => qc_aload_n (qc_at qkX12_folds 63 rfl) rfl <| qc_gR (qc_at qkX12_folds 64 rfl) hn rfl (qfr_291_83 hR) rfl <| qc_iload (qc_at qkX12_folds 65 rfl) rfl <| hx) ?_
  obtain ⟨g40, h⟩ := qc_gd_of h
  refine And.imp_right (fun hx => qc_iald 16 (qc_at qkX12_folds 66 rfl) hn rfl (qc_inb_in g40) <| hx) ?_
  refine qc_andN (qc_if_ne (qc_at qkX12_folds 67 rfl)) (fun u41 => ?_) (fun u41 => ?_)
  · replace h := qc_jn u41 h
    exact And.imp_right (fun hx => qc_iconst (qc_at qkX12_folds 70 rfl) <| qc_sub [0, 1, 2, 3] rfl hx) (tX12_folds_b133 hn hR h)
  · replace h := qc_jp u41 h
    exact And.imp_right (fun hx => qc_iconst (qc_at qkX12_folds 68 rfl) <| qc_goto (qc_at qkX12_folds 69 rfl) <| qc_sub [0, 1, 2, 3] rfl hx) (tX12_folds_b133 hn hR h)
def fX12_folds_b69 (w : qcW) (I : qTI) (L : qTL) (D : qTD) (R : qTR) (x1 : Int64) (x3 : Int64) (x5 : UInt64) (x7 : Int32) (s0 : Int32) : qcO Bool :=
  (if s0 = 0 then (fX12_folds_b118 w I L D R x3 x5 x7) else (qc_gd (qc_inb x7 8) <| qc_gd (qc_inb x7 16) <| qc_gd (qc_inb x7 8) <| qc_gd (qc_inb x7 8) <| fX12_folds_b118 w (qc_u (qc_u I 333 (Int32.toNatClampNeg x7) (0 : Int32)) 291 81 (((qc_u I 333 (Int32.toNatClampNeg x7) (0 : Int32)) 291 81) + (1 : Int32))) (qc_u (qc_u L 335 (Int32.toNatClampNeg x7) x1) 336 (Int32.toNatClampNeg x7) (0 : Int64)) (qc_u D 337 (Int32.toNatClampNeg x7) (0 : UInt64)) R x3 x5 x7))
set_option maxRecDepth 100000 in
set_option maxHeartbeats 4000000 in
theorem tX12_folds_b69 {w : qcW} {I : qTI} {L : qTL} {D : qTD} {R : qTR} {x1 : Int64} {x3 : Int64} {x5 : UInt64} {x7 : Int32} {s0 : Int32} {r : Bool} {I' : qTI} {L' : qTL} {D' : qTD} {R' : qTR} (hn : qcNF ≤ w.1) (hR : qc_FR R) (h : fX12_folds_b69 w I L D R x1 x3 x5 x7 s0 = some (r, I', L', D', R')) : qc_fm qcSM (I, L, D, R) (I', L', D', R') ∧ qc_X (qc_rm (2) 0 0) qmX12_folds (qc_QM 0 0 (qc_eq (some (.int (qc_b r))) w (I', L', D', R'))) 0 0 w (69, [(0, .ref 291), (1, .long x1), (3, .long x3), (5, .double x5), (7, .int x7)], [.int s0], I, L, D, R) := by
  unfold fX12_folds_b69 at h
  refine And.imp_right (fun hx => qc_istore (lv' := [(8, _), (0, _), (1, _), (3, _), (5, _), (7, _)]) (qc_at qkX12_folds 34 rfl) rfl rfl <| qc_iload (qc_at qkX12_folds 35 rfl) rfl <| hx) ?_
  refine qc_andC (qc_if_eq (qc_at qkX12_folds 36 rfl)) (fun u42 => ?_) (fun u42 => ?_)
  · replace h := qc_jp u42 h
    exact And.imp_right (fun hx => qc_sub [1, 3, 4, 5] rfl hx) (tX12_folds_b118 hn hR h)
  · replace h := qc_jn u42 h
    refine And.imp_right (fun hx => qc_aload_n (qc_at qkX12_folds 37 rfl) rfl <| qc_gR (qc_at qkX12_folds 38 rfl) hn rfl (qfr_291_85 hR) rfl <| qc_iload (qc_at qkX12_folds 39 rfl) rfl <| qc_lload_n (qc_at qkX12_folds 40 rfl) rfl <| hx) ?_
    obtain ⟨g43, h⟩ := qc_gd_of h
    refine qd_last 8 (qc_at qkX12_folds 41 rfl) hn rfl (qc_inb_in g43) rfl ?_
    refine And.imp_right (fun hx => qc_aload_n (qc_at qkX12_folds 42 rfl) rfl <| qc_gR (qc_at qkX12_folds 43 rfl) hn rfl (qfr_291_83 hR) rfl <| qc_iload (qc_at qkX12_folds 44 rfl) rfl <| qc_iconst (qc_at qkX12_folds 45 rfl) <| hx) ?_
    obtain ⟨g44, h⟩ := qc_gd_of h
    refine qd_iast 16 (qc_at qkX12_folds 46 rfl) hn rfl (qc_inb_in g44) rfl ?_
    refine And.imp_right (fun hx => qc_aload_n (qc_at qkX12_folds 47 rfl) rfl <| qc_gR (qc_at qkX12_folds 48 rfl) hn rfl (qfr_291_86 hR) rfl <| qc_iload (qc_at qkX12_folds 49 rfl) rfl <| qc_lconst (qc_at qkX12_folds 50 rfl) <| hx) ?_
    obtain ⟨g45, h⟩ := qc_gd_of h
    refine qd_last 8 (qc_at qkX12_folds 51 rfl) hn rfl (qc_inb_in g45) rfl ?_
    refine And.imp_right (fun hx => qc_aload_n (qc_at qkX12_folds 52 rfl) rfl <| qc_gR (qc_at qkX12_folds 53 rfl) hn rfl (qfr_291_87 hR) rfl <| qc_iload (qc_at qkX12_folds 54 rfl) rfl <| qc_dconst (qc_at qkX12_folds 55 rfl) <| hx) ?_
    obtain ⟨g46, h⟩ := qc_gd_of h
    refine qd_dast 8 (qc_at qkX12_folds 56 rfl) hn rfl (qc_inb_in g46) rfl ?_
    refine And.imp_right (fun hx => qc_aload_n (qc_at qkX12_folds 57 rfl) rfl <| qc_dup (qc_at qkX12_folds 58 rfl) rfl <| qc_gI (qc_at qkX12_folds 59 rfl) hn rfl <| qc_iconst (qc_at qkX12_folds 60 rfl) <| qc_iadd (qc_at qkX12_folds 61 rfl) <| hx) (qd_pI (qc_at qkX12_folds 62 rfl) hn rfl rfl ?_)
    exact And.imp_right (fun hx => qc_sub [1, 3, 4, 5] rfl hx) (tX12_folds_b118 hn hR h)
def fX12_folds_b55 (w : qcW) (I : qTI) (L : qTL) (D : qTD) (R : qTR) (x1 : Int64) (x3 : Int64) (x5 : UInt64) (x7 : Int32) : qcO Bool :=
  (if x7 = (I 291 81) then (fX12_folds_b69 w I L D R x1 x3 x5 x7 (1 : Int32)) else (fX12_folds_b69 w I L D R x1 x3 x5 x7 (0 : Int32)))
set_option maxRecDepth 100000 in
set_option maxHeartbeats 4000000 in
theorem tX12_folds_b55 {w : qcW} {I : qTI} {L : qTL} {D : qTD} {R : qTR} {x1 : Int64} {x3 : Int64} {x5 : UInt64} {x7 : Int32} {r : Bool} {I' : qTI} {L' : qTL} {D' : qTD} {R' : qTR} (hn : qcNF ≤ w.1) (hR : qc_FR R) (h : fX12_folds_b55 w I L D R x1 x3 x5 x7 = some (r, I', L', D', R')) : qc_fm qcSM (I, L, D, R) (I', L', D', R') ∧ qc_X (qc_rm (2) 0 0) qmX12_folds (qc_QM 0 0 (qc_eq (some (.int (qc_b r))) w (I', L', D', R'))) 0 0 w (55, [(0, .ref 291), (1, .long x1), (3, .long x3), (5, .double x5), (7, .int x7)], [], I, L, D, R) := by
  unfold fX12_folds_b55 at h
  refine And.imp_right (fun hx => qc_iload (qc_at qkX12_folds 27 rfl) rfl <| qc_aload_n (qc_at qkX12_folds 28 rfl) rfl <| qc_gI (qc_at qkX12_folds 29 rfl) hn rfl <| hx) ?_
  refine qc_andN (qc_icmp_ne (qc_at qkX12_folds 30 rfl)) (fun u47 => ?_) (fun u47 => ?_)
  · replace h := qc_jn u47 h
    exact And.imp_right (fun hx => qc_iconst (qc_at qkX12_folds 33 rfl) <| qc_sub [0, 1, 2, 3, 4] rfl hx) (tX12_folds_b69 hn hR h)
  · replace h := qc_jp u47 h
    exact And.imp_right (fun hx => qc_iconst (qc_at qkX12_folds 31 rfl) <| qc_goto (qc_at qkX12_folds 32 rfl) <| qc_sub [0, 1, 2, 3, 4] rfl hx) (tX12_folds_b69 hn hR h)
def fX12_folds_b30 (w : qcW) (I : qTI) (L : qTL) (D : qTD) (R : qTR) (x1 : Int64) (x3 : Int64) (x5 : UInt64) (x7 : Int32) : qcO Bool :=
  (if x7 = (I 291 81) then (if (I 291 81) = (8 : Int32) then (qc_bd (fX12_fails w I L D R (6 : Int32)) fun r50 I50 L50 D50 R50 => some (r50, I50, L50, D50, R50)) else (fX12_folds_b55 w I L D R x1 x3 x5 x7)) else (fX12_folds_b55 w I L D R x1 x3 x5 x7))
set_option maxRecDepth 100000 in
set_option maxHeartbeats 4000000 in
theorem tX12_folds_b30 {w : qcW} {I : qTI} {L : qTL} {D : qTD} {R : qTR} {x1 : Int64} {x3 : Int64} {x5 : UInt64} {x7 : Int32} {r : Bool} {I' : qTI} {L' : qTL} {D' : qTD} {R' : qTR} (hn : qcNF ≤ w.1) (hR : qc_FR R) (h : fX12_folds_b30 w I L D R x1 x3 x5 x7 = some (r, I', L', D', R')) : qc_fm qcSM (I, L, D, R) (I', L', D', R') ∧ qc_X (qc_rm (2) 0 0) qmX12_folds (qc_QM 0 0 (qc_eq (some (.int (qc_b r))) w (I', L', D', R'))) 0 0 w (30, [(0, .ref 291), (1, .long x1), (3, .long x3), (5, .double x5), (7, .int x7)], [], I, L, D, R) := by
  unfold fX12_folds_b30 at h
  refine And.imp_right (fun hx => qc_iload (qc_at qkX12_folds 15 rfl) rfl <| qc_aload_n (qc_at qkX12_folds 16 rfl) rfl <| qc_gI (qc_at qkX12_folds 17 rfl) hn rfl <| hx) ?_
  refine qc_andN (qc_icmp_ne (qc_at qkX12_folds 18 rfl)) (fun u48 => ?_) (fun u48 => ?_)
  · replace h := qc_jn u48 h
    exact And.imp_right (fun hx => qc_sub [0, 1, 2, 3, 4] rfl hx) (tX12_folds_b55 hn hR h)
  · replace h := qc_jp u48 h
    refine And.imp_right (fun hx => qc_aload_n (qc_at qkX12_folds 19 rfl) rfl <| qc_gI (qc_at qkX12_folds 20 rfl) hn rfl <| qc_bipush (qc_at qkX12_folds 21 rfl) <| hx) ?_
    refine qc_andN (qc_icmp_ne (qc_at qkX12_folds 22 rfl)) (fun u49 => ?_) (fun u49 => ?_)
    · replace h := qc_jn u49 h
      exact And.imp_right (fun hx => qc_sub [0, 1, 2, 3, 4] rfl hx) (tX12_folds_b55 hn hR h)
    · replace h := qc_jp u49 h
      refine And.imp_right (fun hx => qc_aload_n (qc_at qkX12_folds 23 rfl) rfl <| qc_bipush (qc_at qkX12_folds 24 rfl) <| hx) ?_
      obtain ⟨r50, I50, L50, D50, R50, e50, h⟩ := qc_bd_of h
      have c50 := (tX12_fails hn hR e50)
      refine qd_cVv (ci := 10) (a0 := 291) (qc_at qkX12_folds 25 rfl) ql_12_710 qfX12_fails (qc_kf hn rfl) rfl c50 rfl rfl (Nat.le_of_ble_eq_true rfl) (qc_rml (by decide) (by decide)) ⟨Nat.zero_le _, Nat.zero_le _⟩ ?_
      obtain ⟨rfl, rfl, rfl, rfl, rfl⟩ := qc_some5 h
      exact ⟨qc_fm.rf _, qc_zret (qc_at qkX12_folds 26 rfl) rfl (qc_b01 _) (Nat.le_refl _) (Nat.le_refl _) (qc_eq.rf _ _ _)⟩
def fX12_folds_b3 (w : qcW) (k3 : qTI × qTL × qTD × qTR × Int64 × Int64 × UInt64 × Int32 → qcO Bool) (I : qTI) (L : qTL) (D : qTD) (R : qTR) (x1 : Int64) (x3 : Int64) (x5 : UInt64) (x7 : Int32) : qcO Bool :=
  (if (I 291 81) ≤ x7 then (fX12_folds_b30 w I L D R x1 x3 x5 x7) else (qc_gd (qc_inb x7 8) <| if (lg_cmp (L 335 (Int32.toNatClampNeg x7)) x1) = 0 then (fX12_folds_b30 w I L D R x1 x3 x5 x7) else (k3 (I, L, D, R, x1, x3, x5, (x7 + (1))))))
set_option maxRecDepth 100000 in
set_option maxHeartbeats 4000000 in
theorem tX12_folds_b3 {w : qcW} {I : qTI} {L : qTL} {D : qTD} {R : qTR} {k3 : qTI × qTL × qTD × qTR × Int64 × Int64 × UInt64 × Int32 → qcO Bool} {x1 : Int64} {x3 : Int64} {x5 : UInt64} {x7 : Int32} {r : Bool} {I' : qTI} {L' : qTL} {D' : qTD} {R' : qTR} (hn : qcNF ≤ w.1) (hR : qc_FR R) (hk3 : ∀ {I : qTI} {L : qTL} {D : qTD} {R : qTR} {x1 : Int64} {x3 : Int64} {x5 : UInt64} {x7 : Int32} {r : Bool} {I' : qTI} {L' : qTL} {D' : qTD} {R' : qTR}, qc_FR R → k3 (I, L, D, R, x1, x3, x5, x7) = some (r, I', L', D', R') → qc_fm qcSM (I, L, D, R) (I', L', D', R') ∧ qc_X (qc_rm (2) 0 0) qmX12_folds (qc_QM 0 0 (qc_eq (some (.int (qc_b r))) w (I', L', D', R'))) 0 0 w (3, [(0, .ref 291), (1, .long x1), (3, .long x3), (5, .double x5), (7, .int x7)], [], I, L, D, R)) (h : fX12_folds_b3 w k3 I L D R x1 x3 x5 x7 = some (r, I', L', D', R')) : qc_fm qcSM (I, L, D, R) (I', L', D', R') ∧ qc_X (qc_rm (2) 0 0) qmX12_folds (qc_QM 0 0 (qc_eq (some (.int (qc_b r))) w (I', L', D', R'))) 0 0 w (3, [(0, .ref 291), (1, .long x1), (3, .long x3), (5, .double x5), (7, .int x7)], [], I, L, D, R) := by
  unfold fX12_folds_b3 at h
  refine And.imp_right (fun hx => qc_iload (qc_at qkX12_folds 2 rfl) rfl <| qc_aload_n (qc_at qkX12_folds 3 rfl) rfl <| qc_gI (qc_at qkX12_folds 4 rfl) hn rfl <| hx) ?_
  refine qc_andC (qc_icmp_ge (qc_at qkX12_folds 5 rfl)) (fun u51 => ?_) (fun u51 => ?_)
  · replace h := qc_jp u51 h
    exact And.imp_right (fun hx => qc_sub [0, 1, 2, 3, 4] rfl hx) (tX12_folds_b30 hn hR h)
  · replace h := qc_jn u51 h
    refine And.imp_right (fun hx => qc_aload_n (qc_at qkX12_folds 6 rfl) rfl <| qc_gR (qc_at qkX12_folds 7 rfl) hn rfl (qfr_291_85 hR) rfl <| qc_iload (qc_at qkX12_folds 8 rfl) rfl <| hx) ?_
    obtain ⟨g52, h⟩ := qc_gd_of h
    refine And.imp_right (fun hx => qc_lald 8 (qc_at qkX12_folds 9 rfl) hn rfl (qc_inb_in g52) <| qc_lload_n (qc_at qkX12_folds 10 rfl) rfl <| qc_lcmp (qc_at qkX12_folds 11 rfl) <| hx) ?_
    refine qc_andC (qc_if_eq (qc_at qkX12_folds 12 rfl)) (fun u53 => ?_) (fun u53 => ?_)
    · replace h := qc_jp u53 h
      exact And.imp_right (fun hx => qc_sub [0, 1, 2, 3, 4] rfl hx) (tX12_folds_b30 hn hR h)
    · replace h := qc_jn u53 h
      exact And.imp_right (fun hx => qc_iinc (lv' := [(7, _), (0, _), (1, _), (3, _), (5, _)]) (qc_at qkX12_folds 13 rfl) rfl rfl rfl <| qc_goto (qc_at qkX12_folds 14 rfl) <| qc_sub [1, 2, 3, 4, 0] rfl hx) (hk3 hR h)
def fX12_folds_l3 (w : qcW) : Nat → qTI × qTL × qTD × qTR × Int64 × Int64 × UInt64 × Int32 → qcO Bool := qc_lp (fun k q => match q with | (I, L, D, R, x1, x3, x5, x7) => fX12_folds_b3 w k I L D R x1 x3 x5 x7)
set_option maxRecDepth 100000 in
set_option maxHeartbeats 4000000 in
theorem tX12_folds_l3 {w : qcW} (hn : qcNF ≤ w.1) : ∀ (n : Nat) {r : Bool} {I' : qTI} {L' : qTL} {D' : qTD} {R' : qTR} {I : qTI} {L : qTL} {D : qTD} {R : qTR} {x1 : Int64} {x3 : Int64} {x5 : UInt64} {x7 : Int32} (hR : qc_FR R) (h : fX12_folds_l3 w n (I, L, D, R, x1, x3, x5, x7) = some (r, I', L', D', R')), qc_fm qcSM (I, L, D, R) (I', L', D', R') ∧ qc_X (qc_rm (2) 0 0) qmX12_folds (qc_QM 0 0 (qc_eq (some (.int (qc_b r))) w (I', L', D', R'))) 0 0 w (3, [(0, .ref 291), (1, .long x1), (3, .long x3), (5, .double x5), (7, .int x7)], [], I, L, D, R) := by
  intro n
  induction n with
  | zero => intro _ _ _ _ _ _ _ _ _ _ _ _ _ _ h; cases h
  | succ n ih => intro _ _ _ _ _ _ _ _ _ _ _ _ _ hR h; exact tX12_folds_b3 hn hR (k3 := fX12_folds_l3 w n) (fun hR h => ih hR h) h
def fX12_folds (w : qcW) (I : qTI) (L : qTL) (D : qTD) (R : qTR) (x1 : Int64) (x3 : Int64) (x5 : UInt64) : qcO Bool :=
  (fX12_folds_l3 w qcF (I, L, D, R, x1, x3, x5, (0 : Int32)))
set_option maxRecDepth 100000 in
set_option maxHeartbeats 4000000 in
theorem tX12_folds {w : qcW} {I : qTI} {L : qTL} {D : qTD} {R : qTR} {x1 : Int64} {x3 : Int64} {x5 : UInt64} {r : Bool} {I' : qTI} {L' : qTL} {D' : qTD} {R' : qTR} (hn : qcNF ≤ w.1) (hR : qc_FR R) (h : fX12_folds w I L D R x1 x3 x5 = some (r, I', L', D', R')) : qc_fm qcSM (I, L, D, R) (I', L', D', R') ∧ qc_V (2) 0 0 qmX12_folds [.ref 291, .long x1, .long x3, .double x5] w (I, L, D, R) (qc_eq (some (.int (qc_b r))) w (I', L', D', R')) := by
  unfold fX12_folds at h
  refine And.imp_right (fun hx => qc_V.of rfl rfl (Nat.le_of_ble_eq_true rfl) (lv := [(0, .ref 291), (1, .long x1), (3, .long x3), (5, .double x5)]) rfl hx) ?_
  exact And.imp_right (fun hx => qc_iconst (qc_at qkX12_folds 0 rfl) <| qc_istore (lv' := [(7, _), (0, _), (1, _), (3, _), (5, _)]) (qc_at qkX12_folds 1 rfl) rfl rfl <| qc_sub [1, 2, 3, 4, 0] rfl hx) (tX12_folds_l3 hn qcF hR h)
def fX12_goesOn_b81 (w : qcW) (I : qTI) (L : qTL) (D : qTD) (R : qTR) (x1 : Int32) (x3 : UInt64) (s0 : Int64) : qcO Bool :=
  (if x1 = 0 then (qc_bd (fX12_hit w I L D R (I 291 71) x3) fun r9 I9 L9 D9 R9 => some (true, I9, L9, D9, R9)) else (qc_gd (qc_inb (((3 : Int32) * (I 291 72)) + (2 : Int32)) 36) <| if (I 317 (Int32.toNatClampNeg (((3 : Int32) * (I 291 72)) + (2 : Int32)))) = 0 then (qc_bd (fX12_folds w I L D R (0 : Int64) s0 x3) fun r8 I8 L8 D8 R8 => some (r8, I8, L8, D8, R8)) else (qc_bd (fX12_works w I L D R (2 : Int32)) fun r4 I4 L4 D4 R4 => if r4 = true then (qc_bd (fX12_folds w I4 L4 D4 R4 (L4 328 (Int32.toNatClampNeg (0 : Int32))) s0 x3) fun r6 I6 L6 D6 R6 => if r6 = true then (some (true, I6, L6, D6, R6)) else (some (false, I6, L6, D6, R6))) else (some (false, I4, L4, D4, R4)))))
set_option maxRecDepth 100000 in
set_option maxHeartbeats 4000000 in
theorem tX12_goesOn_b81 {w : qcW} {I : qTI} {L : qTL} {D : qTD} {R : qTR} {x1 : Int32} {x3 : UInt64} {s0 : Int64} {r : Bool} {I' : qTI} {L' : qTL} {D' : qTD} {R' : qTR} (hn : qcNF ≤ w.1) (hR : qc_FR R) (h : fX12_goesOn_b81 w I L D R x1 x3 s0 = some (r, I', L', D', R')) : qc_fm qcSM (I, L, D, R) (I', L', D', R') ∧ qc_X (qc_rm (6) 0 0) qmX12_goesOn (qc_QM 0 0 (qc_eq (some (.int (qc_b r))) w (I', L', D', R'))) 0 0 w (81, [(0, .ref 291), (1, .int x1), (3, .double x3)], [.long s0], I, L, D, R) := by
  unfold fX12_goesOn_b81 at h
  refine And.imp_right (fun hx => qc_lstore (lv' := [(5, _), (0, _), (1, _), (3, _)]) (qc_at qkX12_goesOn 49 rfl) rfl rfl <| qc_iload_n (qc_at qkX12_goesOn 50 rfl) rfl <| hx) ?_
  refine qc_andN (qc_if_ne (qc_at qkX12_goesOn 51 rfl)) (fun u1 => ?_) (fun u1 => ?_)
  · replace h := qc_jn u1 h
    refine And.imp_right (fun hx => qc_aload_n (qc_at qkX12_goesOn 59 rfl) rfl <| qc_gR (qc_at qkX12_goesOn 60 rfl) hn rfl (qfr_291_43 hR) rfl <| qc_iconst (qc_at qkX12_goesOn 61 rfl) <| qc_aload_n (qc_at qkX12_goesOn 62 rfl) rfl <| qc_gI (qc_at qkX12_goesOn 63 rfl) hn rfl <| qc_imul (qc_at qkX12_goesOn 64 rfl) <| qc_iconst (qc_at qkX12_goesOn 65 rfl) <| qc_iadd (qc_at qkX12_goesOn 66 rfl) <| hx) ?_
    obtain ⟨g2, h⟩ := qc_gd_of h
    refine And.imp_right (fun hx => qc_iald 36 (qc_at qkX12_goesOn 67 rfl) hn rfl (qc_inb_in g2) <| hx) ?_
    refine qc_andN (qc_if_ne (qc_at qkX12_goesOn 68 rfl)) (fun u3 => ?_) (fun u3 => ?_)
    · replace h := qc_jn u3 h
      refine And.imp_right (fun hx => qc_aload_n (qc_at qkX12_goesOn 75 rfl) rfl <| qc_iconst (qc_at qkX12_goesOn 76 rfl) <| hx) ?_
      obtain ⟨r4, I4, L4, D4, R4, e4, h⟩ := qc_bd_of h
      have c4 := (tX12_works hn hR e4)
      refine qd_cVv (ci := 10) (a0 := 291) (qc_at qkX12_goesOn 77 rfl) ql_12_713 qfX12_works (qc_kf hn rfl) rfl c4 rfl rfl (Nat.le_of_ble_eq_true rfl) (qc_rml (by decide) (by decide)) ⟨Nat.zero_le _, Nat.zero_le _⟩ ?_
      refine qc_andB (qc_ifB_eq (qc_at qkX12_goesOn 78 rfl)) (fun u5 => ?_) (fun u5 => ?_)
      · replace h := qc_jf u5 h
        obtain ⟨rfl, rfl, rfl, rfl, rfl⟩ := qc_some5 h
        exact ⟨qc_fm.rf _, qc_iconst (qc_at qkX12_goesOn 90 rfl) <| qc_zret (qc_at qkX12_goesOn 91 rfl) rfl (Or.inl rfl) (Nat.le_refl _) (Nat.le_refl _) ⟨rfl, rfl, rfl⟩⟩
      · replace h := qc_jt u5 h
        refine And.imp_right (fun hx => qc_aload_n (qc_at qkX12_goesOn 79 rfl) rfl <| qc_aload_n (qc_at qkX12_goesOn 80 rfl) rfl <| qc_gR (qc_at qkX12_goesOn 81 rfl) hn rfl (qfr_291_65 (c4.1.1 hR)) rfl <| qc_iconst (qc_at qkX12_goesOn 82 rfl) <| qc_lald 32 (qc_at qkX12_goesOn 83 rfl) hn rfl (qc_inb_in (by decide)) <| qc_lload (qc_at qkX12_goesOn 84 rfl) rfl <| qc_dload_n (qc_at qkX12_goesOn 85 rfl) rfl <| hx) ?_
        obtain ⟨r6, I6, L6, D6, R6, e6, h⟩ := qc_bd_of h
        have c6 := (tX12_folds hn (c4.1.1 hR) e6)
        refine qd_cVv (ci := 10) (a0 := 291) (qc_at qkX12_goesOn 86 rfl) ql_12_720 qfX12_folds (qc_kf hn rfl) rfl c6 rfl rfl (Nat.le_of_ble_eq_true rfl) (qc_rml (by decide) (by decide)) ⟨Nat.zero_le _, Nat.zero_le _⟩ ?_
        refine qc_andB (qc_ifB_eq (qc_at qkX12_goesOn 87 rfl)) (fun u7 => ?_) (fun u7 => ?_)
        · replace h := qc_jf u7 h
          obtain ⟨rfl, rfl, rfl, rfl, rfl⟩ := qc_some5 h
          exact ⟨qc_fm.rf _, qc_iconst (qc_at qkX12_goesOn 90 rfl) <| qc_zret (qc_at qkX12_goesOn 91 rfl) rfl (Or.inl rfl) (Nat.le_refl _) (Nat.le_refl _) ⟨rfl, rfl, rfl⟩⟩
        · replace h := qc_jt u7 h
          obtain ⟨rfl, rfl, rfl, rfl, rfl⟩ := qc_some5 h
          exact ⟨qc_fm.rf _, qc_iconst (qc_at qkX12_goesOn 88 rfl) <| qc_goto (qc_at qkX12_goesOn 89 rfl) <| qc_zret (qc_at qkX12_goesOn 91 rfl) rfl (Or.inr rfl) (Nat.le_refl _) (Nat.le_refl _) ⟨rfl, rfl, rfl⟩⟩
    · replace h := qc_jp u3 h
      refine And.imp_right (fun hx => qc_aload_n (qc_at qkX12_goesOn 69 rfl) rfl <| qc_lconst (qc_at qkX12_goesOn 70 rfl) <| qc_lload (qc_at qkX12_goesOn 71 rfl) rfl <| qc_dload_n (qc_at qkX12_goesOn 72 rfl) rfl <| hx) ?_
      obtain ⟨r8, I8, L8, D8, R8, e8, h⟩ := qc_bd_of h
      have c8 := (tX12_folds hn hR e8)
      refine qd_cVv (ci := 10) (a0 := 291) (qc_at qkX12_goesOn 73 rfl) ql_12_720 qfX12_folds (qc_kf hn rfl) rfl c8 rfl rfl (Nat.le_of_ble_eq_true rfl) (qc_rml (by decide) (by decide)) ⟨Nat.zero_le _, Nat.zero_le _⟩ ?_
      obtain ⟨rfl, rfl, rfl, rfl, rfl⟩ := qc_some5 h
      exact ⟨qc_fm.rf _, qc_zret (qc_at qkX12_goesOn 74 rfl) rfl (qc_b01 _) (Nat.le_refl _) (Nat.le_refl _) (qc_eq.rf _ _ _)⟩
  · replace h := qc_jp u1 h
    refine And.imp_right (fun hx => qc_aload_n (qc_at qkX12_goesOn 52 rfl) rfl <| qc_aload_n (qc_at qkX12_goesOn 53 rfl) rfl <| qc_gI (qc_at qkX12_goesOn 54 rfl) hn rfl <| qc_dload_n (qc_at qkX12_goesOn 55 rfl) rfl <| hx) ?_
    obtain ⟨r9, I9, L9, D9, R9, e9, h⟩ := qc_bd_of h
    have c9 := (tX12_hit hn hR e9)
    refine qd_cVn (ci := 10) (a0 := 291) (qc_at qkX12_goesOn 56 rfl) ql_12_716 qfX12_hit (qc_kf hn rfl) rfl c9 rfl rfl (Nat.le_of_ble_eq_true rfl) (qc_rml (by decide) (by decide)) ⟨Nat.zero_le _, Nat.zero_le _⟩ ?_
    obtain ⟨rfl, rfl, rfl, rfl, rfl⟩ := qc_some5 h
    exact ⟨qc_fm.rf _, qc_iconst (qc_at qkX12_goesOn 57 rfl) <| qc_zret (qc_at qkX12_goesOn 58 rfl) rfl (Or.inr rfl) (Nat.le_refl _) (Nat.le_refl _) ⟨rfl, rfl, rfl⟩⟩
def fX12_goesOn_b66 (w : qcW) (I : qTI) (L : qTL) (D : qTD) (R : qTR) (x1 : Int32) (x2 : Int32) (s0 : UInt64) : qcO Bool :=
  (if x2 = 0 then (fX12_goesOn_b81 w I L D R x1 s0 (0 : Int64)) else (fX12_goesOn_b81 w I L D R x1 s0 (L 328 (Int32.toNatClampNeg (0 : Int32)))))
set_option maxRecDepth 100000 in
set_option maxHeartbeats 4000000 in
theorem tX12_goesOn_b66 {w : qcW} {I : qTI} {L : qTL} {D : qTD} {R : qTR} {x1 : Int32} {x2 : Int32} {s0 : UInt64} {r : Bool} {I' : qTI} {L' : qTL} {D' : qTD} {R' : qTR} (hn : qcNF ≤ w.1) (hR : qc_FR R) (h : fX12_goesOn_b66 w I L D R x1 x2 s0 = some (r, I', L', D', R')) : qc_fm qcSM (I, L, D, R) (I', L', D', R') ∧ qc_X (qc_rm (6) 0 0) qmX12_goesOn (qc_QM 0 0 (qc_eq (some (.int (qc_b r))) w (I', L', D', R'))) 0 0 w (66, [(0, .ref 291), (1, .int x1), (2, .int x2)], [.double s0], I, L, D, R) := by
  unfold fX12_goesOn_b66 at h
  refine And.imp_right (fun hx => qc_dstore_n (lv' := [(3, _), (0, _), (1, _), (2, _)]) (qc_at qkX12_goesOn 40 rfl) rfl rfl <| qc_iload_n (qc_at qkX12_goesOn 41 rfl) rfl <| hx) ?_
  refine qc_andC (qc_if_eq (qc_at qkX12_goesOn 42 rfl)) (fun u10 => ?_) (fun u10 => ?_)
  · replace h := qc_jp u10 h
    exact And.imp_right (fun hx => qc_lconst (qc_at qkX12_goesOn 48 rfl) <| qc_sub [1, 2, 0] rfl hx) (tX12_goesOn_b81 hn hR h)
  · replace h := qc_jn u10 h
    exact And.imp_right (fun hx => qc_aload_n (qc_at qkX12_goesOn 43 rfl) rfl <| qc_gR (qc_at qkX12_goesOn 44 rfl) hn rfl (qfr_291_65 hR) rfl <| qc_iconst (qc_at qkX12_goesOn 45 rfl) <| qc_lald 32 (qc_at qkX12_goesOn 46 rfl) hn rfl (qc_inb_in (by decide)) <| qc_goto (qc_at qkX12_goesOn 47 rfl) <| qc_sub [1, 2, 0] rfl hx) (tX12_goesOn_b81 hn hR h)
def fX12_goesOn_b36 (w : qcW) (I : qTI) (L : qTL) (D : qTD) (R : qTR) (x1 : Int32) (x2 : Int32) : qcO Bool :=
  (if x1 = (2 : Int32) then (qc_bd (fX12_hit w I L D R (I 291 71) (0 : UInt64)) fun r13 I13 L13 D13 R13 => some (true, I13, L13, D13, R13)) else (if x2 = 0 then (fX12_goesOn_b66 w I L D R x1 x2 (0 : UInt64)) else (fX12_goesOn_b66 w I L D R x1 x2 (D 329 (Int32.toNatClampNeg (0 : Int32))))))
set_option maxRecDepth 100000 in
set_option maxHeartbeats 4000000 in
theorem tX12_goesOn_b36 {w : qcW} {I : qTI} {L : qTL} {D : qTD} {R : qTR} {x1 : Int32} {x2 : Int32} {r : Bool} {I' : qTI} {L' : qTL} {D' : qTD} {R' : qTR} (hn : qcNF ≤ w.1) (hR : qc_FR R) (h : fX12_goesOn_b36 w I L D R x1 x2 = some (r, I', L', D', R')) : qc_fm qcSM (I, L, D, R) (I', L', D', R') ∧ qc_X (qc_rm (6) 0 0) qmX12_goesOn (qc_QM 0 0 (qc_eq (some (.int (qc_b r))) w (I', L', D', R'))) 0 0 w (36, [(0, .ref 291), (1, .int x1), (2, .int x2)], [], I, L, D, R) := by
  unfold fX12_goesOn_b36 at h
  refine And.imp_right (fun hx => qc_iload_n (qc_at qkX12_goesOn 22 rfl) rfl <| qc_iconst (qc_at qkX12_goesOn 23 rfl) <| hx) ?_
  refine qc_andN (qc_icmp_ne (qc_at qkX12_goesOn 24 rfl)) (fun u11 => ?_) (fun u11 => ?_)
  · replace h := qc_jn u11 h
    refine And.imp_right (fun hx => qc_iload_n (qc_at qkX12_goesOn 32 rfl) rfl <| hx) ?_
    refine qc_andC (qc_if_eq (qc_at qkX12_goesOn 33 rfl)) (fun u12 => ?_) (fun u12 => ?_)
    · replace h := qc_jp u12 h
      exact And.imp_right (fun hx => qc_dconst (qc_at qkX12_goesOn 39 rfl) <| qc_sub [0, 1, 2] rfl hx) (tX12_goesOn_b66 hn hR h)
    · replace h := qc_jn u12 h
      exact And.imp_right (fun hx => qc_aload_n (qc_at qkX12_goesOn 34 rfl) rfl <| qc_gR (qc_at qkX12_goesOn 35 rfl) hn rfl (qfr_291_66 hR) rfl <| qc_iconst (qc_at qkX12_goesOn 36 rfl) <| qc_dald 32 (qc_at qkX12_goesOn 37 rfl) hn rfl (qc_inb_in (by decide)) <| qc_goto (qc_at qkX12_goesOn 38 rfl) <| qc_sub [0, 1, 2] rfl hx) (tX12_goesOn_b66 hn hR h)
  · replace h := qc_jp u11 h
    refine And.imp_right (fun hx => qc_aload_n (qc_at qkX12_goesOn 25 rfl) rfl <| qc_aload_n (qc_at qkX12_goesOn 26 rfl) rfl <| qc_gI (qc_at qkX12_goesOn 27 rfl) hn rfl <| qc_dconst (qc_at qkX12_goesOn 28 rfl) <| hx) ?_
    obtain ⟨r13, I13, L13, D13, R13, e13, h⟩ := qc_bd_of h
    have c13 := (tX12_hit hn hR e13)
    refine qd_cVn (ci := 10) (a0 := 291) (qc_at qkX12_goesOn 29 rfl) ql_12_716 qfX12_hit (qc_kf hn rfl) rfl c13 rfl rfl (Nat.le_of_ble_eq_true rfl) (qc_rml (by decide) (by decide)) ⟨Nat.zero_le _, Nat.zero_le _⟩ ?_
    obtain ⟨rfl, rfl, rfl, rfl, rfl⟩ := qc_some5 h
    exact ⟨qc_fm.rf _, qc_iconst (qc_at qkX12_goesOn 30 rfl) <| qc_zret (qc_at qkX12_goesOn 31 rfl) rfl (Or.inr rfl) (Nat.le_refl _) (Nat.le_refl _) ⟨rfl, rfl, rfl⟩⟩
def fX12_goesOn_b21 (w : qcW) (I : qTI) (L : qTL) (D : qTD) (R : qTR) (x1 : Int32) (s0 : Int32) : qcO Bool :=
  (if s0 = 0 then (fX12_goesOn_b36 w I L D R x1 s0) else (qc_bd (fX12_works w I L D R (1 : Int32)) fun r15 I15 L15 D15 R15 => if r15 = true then (fX12_goesOn_b36 w I15 L15 D15 R15 x1 s0) else (some (false, I15, L15, D15, R15))))
set_option maxRecDepth 100000 in
set_option maxHeartbeats 4000000 in
theorem tX12_goesOn_b21 {w : qcW} {I : qTI} {L : qTL} {D : qTD} {R : qTR} {x1 : Int32} {s0 : Int32} {r : Bool} {I' : qTI} {L' : qTL} {D' : qTD} {R' : qTR} (hn : qcNF ≤ w.1) (hR : qc_FR R) (h : fX12_goesOn_b21 w I L D R x1 s0 = some (r, I', L', D', R')) : qc_fm qcSM (I, L, D, R) (I', L', D', R') ∧ qc_X (qc_rm (6) 0 0) qmX12_goesOn (qc_QM 0 0 (qc_eq (some (.int (qc_b r))) w (I', L', D', R'))) 0 0 w (21, [(0, .ref 291), (1, .int x1)], [.int s0], I, L, D, R) := by
  unfold fX12_goesOn_b21 at h
  refine And.imp_right (fun hx => qc_istore_n (lv' := [(2, _), (0, _), (1, _)]) (qc_at qkX12_goesOn 13 rfl) rfl rfl <| qc_iload_n (qc_at qkX12_goesOn 14 rfl) rfl <| hx) ?_
  refine qc_andC (qc_if_eq (qc_at qkX12_goesOn 15 rfl)) (fun u14 => ?_) (fun u14 => ?_)
  · replace h := qc_jp u14 h
    exact And.imp_right (fun hx => qc_sub [1, 2, 0] rfl hx) (tX12_goesOn_b36 hn hR h)
  · replace h := qc_jn u14 h
    refine And.imp_right (fun hx => qc_aload_n (qc_at qkX12_goesOn 16 rfl) rfl <| qc_iconst (qc_at qkX12_goesOn 17 rfl) <| hx) ?_
    obtain ⟨r15, I15, L15, D15, R15, e15, h⟩ := qc_bd_of h
    have c15 := (tX12_works hn hR e15)
    refine qd_cVv (ci := 10) (a0 := 291) (qc_at qkX12_goesOn 18 rfl) ql_12_713 qfX12_works (qc_kf hn rfl) rfl c15 rfl rfl (Nat.le_of_ble_eq_true rfl) (qc_rml (by decide) (by decide)) ⟨Nat.zero_le _, Nat.zero_le _⟩ ?_
    refine qc_andBn (qc_ifB_ne (qc_at qkX12_goesOn 19 rfl)) (fun u16 => ?_) (fun u16 => ?_)
    · replace h := qc_jt u16 h
      exact And.imp_right (fun hx => qc_sub [1, 2, 0] rfl hx) (tX12_goesOn_b36 hn (c15.1.1 hR) h)
    · replace h := qc_jf u16 h
      obtain ⟨rfl, rfl, rfl, rfl, rfl⟩ := qc_some5 h
      exact ⟨qc_fm.rf _, qc_iconst (qc_at qkX12_goesOn 20 rfl) <| qc_zret (qc_at qkX12_goesOn 21 rfl) rfl (Or.inl rfl) (Nat.le_refl _) (Nat.le_refl _) ⟨rfl, rfl, rfl⟩⟩
def fX12_goesOn (w : qcW) (I : qTI) (L : qTL) (D : qTD) (R : qTR) (x1 : Int32) : qcO Bool :=
  (qc_gd (qc_inb (((3 : Int32) * (I 291 72)) + (1 : Int32)) 36) <| if (I 317 (Int32.toNatClampNeg (((3 : Int32) * (I 291 72)) + (1 : Int32)))) ≤ 0 then (fX12_goesOn_b21 w I L D R x1 (0 : Int32)) else (fX12_goesOn_b21 w I L D R x1 (1 : Int32)))
set_option maxRecDepth 100000 in
set_option maxHeartbeats 4000000 in
theorem tX12_goesOn {w : qcW} {I : qTI} {L : qTL} {D : qTD} {R : qTR} {x1 : Int32} {r : Bool} {I' : qTI} {L' : qTL} {D' : qTD} {R' : qTR} (hn : qcNF ≤ w.1) (hR : qc_FR R) (h : fX12_goesOn w I L D R x1 = some (r, I', L', D', R')) : qc_fm qcSM (I, L, D, R) (I', L', D', R') ∧ qc_V (6) 0 0 qmX12_goesOn [.ref 291, .int x1] w (I, L, D, R) (qc_eq (some (.int (qc_b r))) w (I', L', D', R')) := by
  unfold fX12_goesOn at h
  refine And.imp_right (fun hx => qc_V.of rfl rfl (Nat.le_of_ble_eq_true rfl) (lv := [(0, .ref 291), (1, .int x1)]) rfl hx) ?_
  refine And.imp_right (fun hx => qc_aload_n (qc_at qkX12_goesOn 0 rfl) rfl <| qc_gR (qc_at qkX12_goesOn 1 rfl) hn rfl (qfr_291_43 hR) rfl <| qc_iconst (qc_at qkX12_goesOn 2 rfl) <| qc_aload_n (qc_at qkX12_goesOn 3 rfl) rfl <| qc_gI (qc_at qkX12_goesOn 4 rfl) hn rfl <| qc_imul (qc_at qkX12_goesOn 5 rfl) <| qc_iconst (qc_at qkX12_goesOn 6 rfl) <| qc_iadd (qc_at qkX12_goesOn 7 rfl) <| hx) ?_
  obtain ⟨g17, h⟩ := qc_gd_of h
  refine And.imp_right (fun hx => qc_iald 36 (qc_at qkX12_goesOn 8 rfl) hn rfl (qc_inb_in g17) <| hx) ?_
  refine qc_andC (qc_if_le (qc_at qkX12_goesOn 9 rfl)) (fun u18 => ?_) (fun u18 => ?_)
  · replace h := qc_jp u18 h
    exact And.imp_right (fun hx => qc_iconst (qc_at qkX12_goesOn 12 rfl) <| qc_sub [0, 1] rfl hx) (tX12_goesOn_b21 hn hR h)
  · replace h := qc_jn u18 h
    exact And.imp_right (fun hx => qc_iconst (qc_at qkX12_goesOn 10 rfl) <| qc_goto (qc_at qkX12_goesOn 11 rfl) <| qc_sub [0, 1] rfl hx) (tX12_goesOn_b21 hn hR h)
def fX12_sorts_b89 (w : qcW) (k21 : qTI × qTL × qTD × qTR × Int32 × Int32 → qcO Unit) (k47 : qTI × qTL × qTD × qTR × Int32 × Int32 × Int32 × UInt64 × Int32 → qcO Unit) (I : qTI) (L : qTL) (D : qTD) (R : qTR) (x1 : Int32) (x2 : Int32) (x3 : Int32) (x4 : UInt64) (x6 : Int32) : qcO Unit :=
  (qc_gd (qc_inb (x6 - (1 : Int32)) 16) <| qc_gd (qc_inb x6 16) <| qc_gd (qc_inb (x6 - (1 : Int32)) 16) <| qc_gd (qc_inb x6 16) <| k47 ((qc_u I 333 (Int32.toNatClampNeg x6) (I 333 (Int32.toNatClampNeg (x6 - (1 : Int32))))), L, (qc_u D 334 (Int32.toNatClampNeg x6) (D 334 (Int32.toNatClampNeg (x6 - (1 : Int32))))), R, x1, x2, x3, x4, (x6 + (-1))))
set_option maxRecDepth 100000 in
set_option maxHeartbeats 4000000 in
theorem tX12_sorts_b89 {w : qcW} {I : qTI} {L : qTL} {D : qTD} {R : qTR} {k21 : qTI × qTL × qTD × qTR × Int32 × Int32 → qcO Unit} {k47 : qTI × qTL × qTD × qTR × Int32 × Int32 × Int32 × UInt64 × Int32 → qcO Unit} {x1 : Int32} {x2 : Int32} {x3 : Int32} {x4 : UInt64} {x6 : Int32} {r : Unit} {I' : qTI} {L' : qTL} {D' : qTD} {R' : qTR} (hn : qcNF ≤ w.1) (hR : qc_FR R) (hk21 : ∀ {I : qTI} {L : qTL} {D : qTD} {R : qTR} {x1 : Int32} {x2 : Int32} {r : Unit} {I' : qTI} {L' : qTL} {D' : qTD} {R' : qTR}, qc_FR R → k21 (I, L, D, R, x1, x2) = some (r, I', L', D', R') → qc_fm qcSM (I, L, D, R) (I', L', D', R') ∧ qc_X (qc_rm (0) 0 0) qmX12_sorts (qc_QM 0 0 (qc_eq none w (I', L', D', R'))) 0 0 w (21, [(0, .ref 291), (1, .int x1), (2, .int x2)], [], I, L, D, R)) (hk47 : ∀ {I : qTI} {L : qTL} {D : qTD} {R : qTR} {x1 : Int32} {x2 : Int32} {x3 : Int32} {x4 : UInt64} {x6 : Int32} {r : Unit} {I' : qTI} {L' : qTL} {D' : qTD} {R' : qTR}, qc_FR R → k47 (I, L, D, R, x1, x2, x3, x4, x6) = some (r, I', L', D', R') → qc_fm qcSM (I, L, D, R) (I', L', D', R') ∧ qc_X (qc_rm (0) 0 0) qmX12_sorts (qc_QM 0 0 (qc_eq none w (I', L', D', R'))) 0 0 w (47, [(0, .ref 291), (1, .int x1), (2, .int x2), (3, .int x3), (4, .double x4), (6, .int x6)], [], I, L, D, R)) (h : fX12_sorts_b89 w k21 k47 I L D R x1 x2 x3 x4 x6 = some (r, I', L', D', R')) : qc_fm qcSM (I, L, D, R) (I', L', D', R') ∧ qc_X (qc_rm (0) 0 0) qmX12_sorts (qc_QM 0 0 (qc_eq none w (I', L', D', R'))) 0 0 w (89, [(0, .ref 291), (1, .int x1), (2, .int x2), (3, .int x3), (4, .double x4), (6, .int x6)], [], I, L, D, R) := by
  unfold fX12_sorts_b89 at h
  refine And.imp_right (fun hx => qc_aload_n (qc_at qkX12_sorts 52 rfl) rfl <| qc_gR (qc_at qkX12_sorts 53 rfl) hn rfl (qfr_291_83 hR) rfl <| qc_iload (qc_at qkX12_sorts 54 rfl) rfl <| qc_aload_n (qc_at qkX12_sorts 55 rfl) rfl <| qc_gR (qc_at qkX12_sorts 56 rfl) hn rfl (qfr_291_83 hR) rfl <| qc_iload (qc_at qkX12_sorts 57 rfl) rfl <| qc_iconst (qc_at qkX12_sorts 58 rfl) <| qc_isub (qc_at qkX12_sorts 59 rfl) <| hx) ?_
  obtain ⟨g1, h⟩ := qc_gd_of h
  refine And.imp_right (fun hx => qc_iald 16 (qc_at qkX12_sorts 60 rfl) hn rfl (qc_inb_in g1) <| hx) ?_
  obtain ⟨g2, h⟩ := qc_gd_of h
  refine qd_iast 16 (qc_at qkX12_sorts 61 rfl) hn rfl (qc_inb_in g2) rfl ?_
  refine And.imp_right (fun hx => qc_aload_n (qc_at qkX12_sorts 62 rfl) rfl <| qc_gR (qc_at qkX12_sorts 63 rfl) hn rfl (qfr_291_84 hR) rfl <| qc_iload (qc_at qkX12_sorts 64 rfl) rfl <| qc_aload_n (qc_at qkX12_sorts 65 rfl) rfl <| qc_gR (qc_at qkX12_sorts 66 rfl) hn rfl (qfr_291_84 hR) rfl <| qc_iload (qc_at qkX12_sorts 67 rfl) rfl <| qc_iconst (qc_at qkX12_sorts 68 rfl) <| qc_isub (qc_at qkX12_sorts 69 rfl) <| hx) ?_
  obtain ⟨g3, h⟩ := qc_gd_of h
  refine And.imp_right (fun hx => qc_dald 16 (qc_at qkX12_sorts 70 rfl) hn rfl (qc_inb_in g3) <| hx) ?_
  obtain ⟨g4, h⟩ := qc_gd_of h
  refine qd_dast 16 (qc_at qkX12_sorts 71 rfl) hn rfl (qc_inb_in g4) rfl ?_
  exact And.imp_right (fun hx => qc_iinc (lv' := [(6, _), (0, _), (1, _), (2, _), (3, _), (4, _)]) (qc_at qkX12_sorts 72 rfl) rfl rfl rfl <| qc_goto (qc_at qkX12_sorts 73 rfl) <| qc_sub [1, 2, 3, 4, 5, 0] rfl hx) (hk47 hR h)
def fX12_sorts_b127 (w : qcW) (k21 : qTI × qTL × qTD × qTR × Int32 × Int32 → qcO Unit) (I : qTI) (L : qTL) (D : qTD) (R : qTR) (x1 : Int32) (x2 : Int32) (x3 : Int32) (x4 : UInt64) (x6 : Int32) : qcO Unit :=
  (qc_gd (qc_inb x6 16) <| qc_gd (qc_inb x6 16) <| k21 ((qc_u I 333 (Int32.toNatClampNeg x6) x3), L, (qc_u D 334 (Int32.toNatClampNeg x6) x4), R, x1, (x2 + (1))))
set_option maxRecDepth 100000 in
set_option maxHeartbeats 4000000 in
theorem tX12_sorts_b127 {w : qcW} {I : qTI} {L : qTL} {D : qTD} {R : qTR} {k21 : qTI × qTL × qTD × qTR × Int32 × Int32 → qcO Unit} {x1 : Int32} {x2 : Int32} {x3 : Int32} {x4 : UInt64} {x6 : Int32} {r : Unit} {I' : qTI} {L' : qTL} {D' : qTD} {R' : qTR} (hn : qcNF ≤ w.1) (hR : qc_FR R) (hk21 : ∀ {I : qTI} {L : qTL} {D : qTD} {R : qTR} {x1 : Int32} {x2 : Int32} {r : Unit} {I' : qTI} {L' : qTL} {D' : qTD} {R' : qTR}, qc_FR R → k21 (I, L, D, R, x1, x2) = some (r, I', L', D', R') → qc_fm qcSM (I, L, D, R) (I', L', D', R') ∧ qc_X (qc_rm (0) 0 0) qmX12_sorts (qc_QM 0 0 (qc_eq none w (I', L', D', R'))) 0 0 w (21, [(0, .ref 291), (1, .int x1), (2, .int x2)], [], I, L, D, R)) (h : fX12_sorts_b127 w k21 I L D R x1 x2 x3 x4 x6 = some (r, I', L', D', R')) : qc_fm qcSM (I, L, D, R) (I', L', D', R') ∧ qc_X (qc_rm (0) 0 0) qmX12_sorts (qc_QM 0 0 (qc_eq none w (I', L', D', R'))) 0 0 w (127, [(0, .ref 291), (1, .int x1), (2, .int x2), (3, .int x3), (4, .double x4), (6, .int x6)], [], I, L, D, R) := by
  unfold fX12_sorts_b127 at h
  refine And.imp_right (fun hx => qc_aload_n (qc_at qkX12_sorts 74 rfl) rfl <| qc_gR (qc_at qkX12_sorts 75 rfl) hn rfl (qfr_291_83 hR) rfl <| qc_iload (qc_at qkX12_sorts 76 rfl) rfl <| qc_iload_n (qc_at qkX12_sorts 77 rfl) rfl <| hx) ?_
  obtain ⟨g5, h⟩ := qc_gd_of h
  refine qd_iast 16 (qc_at qkX12_sorts 78 rfl) hn rfl (qc_inb_in g5) rfl ?_
  refine And.imp_right (fun hx => qc_aload_n (qc_at qkX12_sorts 79 rfl) rfl <| qc_gR (qc_at qkX12_sorts 80 rfl) hn rfl (qfr_291_84 hR) rfl <| qc_iload (qc_at qkX12_sorts 81 rfl) rfl <| qc_dload (qc_at qkX12_sorts 82 rfl) rfl <| hx) ?_
  obtain ⟨g6, h⟩ := qc_gd_of h
  refine qd_dast 16 (qc_at qkX12_sorts 83 rfl) hn rfl (qc_inb_in g6) rfl ?_
  exact And.imp_right (fun hx => qc_iinc (lv' := [(2, _), (0, _), (1, _), (3, _), (4, _), (6, _)]) (qc_at qkX12_sorts 84 rfl) rfl rfl rfl <| qc_goto (qc_at qkX12_sorts 85 rfl) <| qc_sub [1, 2, 0] rfl hx) (hk21 hR h)
def fX12_sorts_b47 (w : qcW) (k21 : qTI × qTL × qTD × qTR × Int32 × Int32 → qcO Unit) (k47 : qTI × qTL × qTD × qTR × Int32 × Int32 × Int32 × UInt64 × Int32 → qcO Unit) (I : qTI) (L : qTL) (D : qTD) (R : qTR) (x1 : Int32) (x2 : Int32) (x3 : Int32) (x4 : UInt64) (x6 : Int32) : qcO Unit :=
  (if x6 ≤ 0 then (fX12_sorts_b127 w k21 I L D R x1 x2 x3 x4 x6) else (if x1 = 0 then (qc_gd (qc_inb (x6 - (1 : Int32)) 16) <| if 0 ≤ (Op.cmpValue (FP.dcmp x4 (D 334 (Int32.toNatClampNeg (x6 - (1 : Int32))))) .g) then (fX12_sorts_b127 w k21 I L D R x1 x2 x3 x4 x6) else (fX12_sorts_b89 w k21 k47 I L D R x1 x2 x3 x4 x6)) else (qc_gd (qc_inb (x6 - (1 : Int32)) 16) <| if (Op.cmpValue (FP.dcmp x4 (D 334 (Int32.toNatClampNeg (x6 - (1 : Int32))))) .l) ≤ 0 then (fX12_sorts_b127 w k21 I L D R x1 x2 x3 x4 x6) else (fX12_sorts_b89 w k21 k47 I L D R x1 x2 x3 x4 x6))))
set_option maxRecDepth 100000 in
set_option maxHeartbeats 4000000 in
theorem tX12_sorts_b47 {w : qcW} {I : qTI} {L : qTL} {D : qTD} {R : qTR} {k21 : qTI × qTL × qTD × qTR × Int32 × Int32 → qcO Unit} {k47 : qTI × qTL × qTD × qTR × Int32 × Int32 × Int32 × UInt64 × Int32 → qcO Unit} {x1 : Int32} {x2 : Int32} {x3 : Int32} {x4 : UInt64} {x6 : Int32} {r : Unit} {I' : qTI} {L' : qTL} {D' : qTD} {R' : qTR} (hn : qcNF ≤ w.1) (hR : qc_FR R) (hk21 : ∀ {I : qTI} {L : qTL} {D : qTD} {R : qTR} {x1 : Int32} {x2 : Int32} {r : Unit} {I' : qTI} {L' : qTL} {D' : qTD} {R' : qTR}, qc_FR R → k21 (I, L, D, R, x1, x2) = some (r, I', L', D', R') → qc_fm qcSM (I, L, D, R) (I', L', D', R') ∧ qc_X (qc_rm (0) 0 0) qmX12_sorts (qc_QM 0 0 (qc_eq none w (I', L', D', R'))) 0 0 w (21, [(0, .ref 291), (1, .int x1), (2, .int x2)], [], I, L, D, R)) (hk47 : ∀ {I : qTI} {L : qTL} {D : qTD} {R : qTR} {x1 : Int32} {x2 : Int32} {x3 : Int32} {x4 : UInt64} {x6 : Int32} {r : Unit} {I' : qTI} {L' : qTL} {D' : qTD} {R' : qTR}, qc_FR R → k47 (I, L, D, R, x1, x2, x3, x4, x6) = some (r, I', L', D', R') → qc_fm qcSM (I, L, D, R) (I', L', D', R') ∧ qc_X (qc_rm (0) 0 0) qmX12_sorts (qc_QM 0 0 (qc_eq none w (I', L', D', R'))) 0 0 w (47, [(0, .ref 291), (1, .int x1), (2, .int x2), (3, .int x3), (4, .double x4), (6, .int x6)], [], I, L, D, R)) (h : fX12_sorts_b47 w k21 k47 I L D R x1 x2 x3 x4 x6 = some (r, I', L', D', R')) : qc_fm qcSM (I, L, D, R) (I', L', D', R') ∧ qc_X (qc_rm (0) 0 0) qmX12_sorts (qc_QM 0 0 (qc_eq none w (I', L', D', R'))) 0 0 w (47, [(0, .ref 291), (1, .int x1), (2, .int x2), (3, .int x3), (4, .double x4), (6, .int x6)], [], I, L, D, R) := by
  unfold fX12_sorts_b47 at h
  refine And.imp_right (fun hx => qc_iload (qc_at qkX12_sorts 29 rfl) rfl <| hx) ?_
  refine qc_andC (qc_if_le (qc_at qkX12_sorts 30 rfl)) (fun u7 => ?_) (fun u7 => ?_)
  · replace h := qc_jp u7 h
    exact And.imp_right (fun hx => qc_sub [0, 1, 2, 3, 4, 5] rfl hx) (tX12_sorts_b127 hn hR hk21 h)
  · replace h := qc_jn u7 h
    refine And.imp_right (fun hx => qc_iload_n (qc_at qkX12_sorts 31 rfl) rfl <| hx) ?_
    refine qc_andC (qc_if_eq (qc_at qkX12_sorts 32 rfl)) (fun u8 => ?_) (fun u8 => ?_)
    · replace h := qc_jp u8 h
      refine And.imp_right (fun hx => qc_dload (qc_at qkX12_sorts 43 rfl) rfl <| qc_aload_n (qc_at qkX12_sorts 44 rfl) rfl <| qc_gR (qc_at qkX12_sorts 45 rfl) hn rfl (qfr_291_84 hR) rfl <| qc_iload (qc_at qkX12_sorts 46 rfl) rfl <| qc_iconst (qc_at qkX12_sorts 47 rfl) <| qc_isub (qc_at qkX12_sorts 48 rfl) <| hx) ?_
      obtain ⟨g9, h⟩ := qc_gd_of h
      refine And.imp_right (fun hx => qc_dald 16 (qc_at qkX12_sorts 49 rfl) hn rfl (qc_inb_in g9) <| qc_dcmp (qc_at qkX12_sorts 50 rfl) <| hx) ?_
      refine qc_andC (qc_if_ge (qc_at qkX12_sorts 51 rfl)) (fun u10 => ?_) (fun u10 => ?_)
      · replace h := qc_jp u10 h
        exact And.imp_right (fun hx => qc_sub [0, 1, 2, 3, 4, 5] rfl hx) (tX12_sorts_b127 hn hR hk21 h)
      · replace h := qc_jn u10 h
        exact And.imp_right (fun hx => qc_sub [0, 1, 2, 3, 4, 5] rfl hx) (tX12_sorts_b89 hn hR hk21 hk47 h)
    · replace h := qc_jn u8 h
      refine And.imp_right (fun hx => qc_dload (qc_at qkX12_sorts 33 rfl) rfl <| qc_aload_n (qc_at qkX12_sorts 34 rfl) rfl <| qc_gR (qc_at qkX12_sorts 35 rfl) hn rfl (qfr_291_84 hR) rfl <| qc_iload (qc_at qkX12_sorts 36 rfl) rfl <| qc_iconst (qc_at qkX12_sorts 37 rfl) <| qc_isub (qc_at qkX12_sorts 38 rfl) <| hx) ?_
      obtain ⟨g11, h⟩ := qc_gd_of h
      refine And.imp_right (fun hx => qc_dald 16 (qc_at qkX12_sorts 39 rfl) hn rfl (qc_inb_in g11) <| qc_dcmp (qc_at qkX12_sorts 40 rfl) <| hx) ?_
      refine qc_andC (qc_if_le (qc_at qkX12_sorts 41 rfl)) (fun u12 => ?_) (fun u12 => ?_)
      · replace h := qc_jp u12 h
        exact And.imp_right (fun hx => qc_sub [0, 1, 2, 3, 4, 5] rfl hx) (tX12_sorts_b127 hn hR hk21 h)
      · replace h := qc_jn u12 h
        exact And.imp_right (fun hx => qc_goto (qc_at qkX12_sorts 42 rfl) <| qc_sub [0, 1, 2, 3, 4, 5] rfl hx) (tX12_sorts_b89 hn hR hk21 hk47 h)
def fX12_sorts_l47 (w : qcW) (k21 : qTI × qTL × qTD × qTR × Int32 × Int32 → qcO Unit) : Nat → qTI × qTL × qTD × qTR × Int32 × Int32 × Int32 × UInt64 × Int32 → qcO Unit := qc_lp (fun k q => match q with | (I, L, D, R, x1, x2, x3, x4, x6) => fX12_sorts_b47 w k21 k I L D R x1 x2 x3 x4 x6)
set_option maxRecDepth 100000 in
set_option maxHeartbeats 4000000 in
theorem tX12_sorts_l47 {w : qcW} {k21 : qTI × qTL × qTD × qTR × Int32 × Int32 → qcO Unit} (hn : qcNF ≤ w.1) (hk21 : ∀ {I : qTI} {L : qTL} {D : qTD} {R : qTR} {x1 : Int32} {x2 : Int32} {r : Unit} {I' : qTI} {L' : qTL} {D' : qTD} {R' : qTR}, qc_FR R → k21 (I, L, D, R, x1, x2) = some (r, I', L', D', R') → qc_fm qcSM (I, L, D, R) (I', L', D', R') ∧ qc_X (qc_rm (0) 0 0) qmX12_sorts (qc_QM 0 0 (qc_eq none w (I', L', D', R'))) 0 0 w (21, [(0, .ref 291), (1, .int x1), (2, .int x2)], [], I, L, D, R)) : ∀ (n : Nat) {r : Unit} {I' : qTI} {L' : qTL} {D' : qTD} {R' : qTR} {I : qTI} {L : qTL} {D : qTD} {R : qTR} {x1 : Int32} {x2 : Int32} {x3 : Int32} {x4 : UInt64} {x6 : Int32} (hR : qc_FR R) (h : fX12_sorts_l47 w k21 n (I, L, D, R, x1, x2, x3, x4, x6) = some (r, I', L', D', R')), qc_fm qcSM (I, L, D, R) (I', L', D', R') ∧ qc_X (qc_rm (0) 0 0) qmX12_sorts (qc_QM 0 0 (qc_eq none w (I', L', D', R'))) 0 0 w (47, [(0, .ref 291), (1, .int x1), (2, .int x2), (3, .int x3), (4, .double x4), (6, .int x6)], [], I, L, D, R) := by
  intro n
  induction n with
  | zero => intro _ _ _ _ _ _ _ _ _ _ _ _ _ _ _ h; cases h
  | succ n ih => intro _ _ _ _ _ _ _ _ _ _ _ _ _ _ hR h; exact tX12_sorts_b47 hn hR hk21 (k47 := fX12_sorts_l47 w k21 n) (fun hR h => ih hR h) h
def fX12_sorts_b21 (w : qcW) (k21 : qTI × qTL × qTD × qTR × Int32 × Int32 → qcO Unit) (I : qTI) (L : qTL) (D : qTD) (R : qTR) (x1 : Int32) (x2 : Int32) : qcO Unit :=
  (if (I 291 81) ≤ x2 then (some ((), I, L, D, R)) else (qc_gd (qc_inb x2 16) <| qc_gd (qc_inb x2 16) <| fX12_sorts_l47 w k21 qcF (I, L, D, R, x1, x2, (I 333 (Int32.toNatClampNeg x2)), (D 334 (Int32.toNatClampNeg x2)), x2)))
set_option maxRecDepth 100000 in
set_option maxHeartbeats 4000000 in
theorem tX12_sorts_b21 {w : qcW} {I : qTI} {L : qTL} {D : qTD} {R : qTR} {k21 : qTI × qTL × qTD × qTR × Int32 × Int32 → qcO Unit} {x1 : Int32} {x2 : Int32} {r : Unit} {I' : qTI} {L' : qTL} {D' : qTD} {R' : qTR} (hn : qcNF ≤ w.1) (hR : qc_FR R) (hk21 : ∀ {I : qTI} {L : qTL} {D : qTD} {R : qTR} {x1 : Int32} {x2 : Int32} {r : Unit} {I' : qTI} {L' : qTL} {D' : qTD} {R' : qTR}, qc_FR R → k21 (I, L, D, R, x1, x2) = some (r, I', L', D', R') → qc_fm qcSM (I, L, D, R) (I', L', D', R') ∧ qc_X (qc_rm (0) 0 0) qmX12_sorts (qc_QM 0 0 (qc_eq none w (I', L', D', R'))) 0 0 w (21, [(0, .ref 291), (1, .int x1), (2, .int x2)], [], I, L, D, R)) (h : fX12_sorts_b21 w k21 I L D R x1 x2 = some (r, I', L', D', R')) : qc_fm qcSM (I, L, D, R) (I', L', D', R') ∧ qc_X (qc_rm (0) 0 0) qmX12_sorts (qc_QM 0 0 (qc_eq none w (I', L', D', R'))) 0 0 w (21, [(0, .ref 291), (1, .int x1), (2, .int x2)], [], I, L, D, R) := by
  unfold fX12_sorts_b21 at h
  refine And.imp_right (fun hx => qc_iload_n (qc_at qkX12_sorts 13 rfl) rfl <| qc_aload_n (qc_at qkX12_sorts 14 rfl) rfl <| qc_gI (qc_at qkX12_sorts 15 rfl) hn rfl <| hx) ?_
  refine qc_andC (qc_icmp_ge (qc_at qkX12_sorts 16 rfl)) (fun u13 => ?_) (fun u13 => ?_)
  · replace h := qc_jp u13 h
    obtain ⟨rfl, rfl, rfl, rfl, rfl⟩ := qc_some5 h
    exact ⟨qc_fm.rf _, qc_vret (qc_at qkX12_sorts 86 rfl) rfl (Nat.le_refl _) (Nat.le_refl _) (qc_eq.rf _ _ _)⟩
  · replace h := qc_jn u13 h
    refine And.imp_right (fun hx => qc_aload_n (qc_at qkX12_sorts 17 rfl) rfl <| qc_gR (qc_at qkX12_sorts 18 rfl) hn rfl (qfr_291_83 hR) rfl <| qc_iload_n (qc_at qkX12_sorts 19 rfl) rfl <| hx) ?_
    obtain ⟨g14, h⟩ := qc_gd_of h
    refine And.imp_right (fun hx => qc_iald 16 (qc_at qkX12_sorts 20 rfl) hn rfl (qc_inb_in g14) <| qc_istore_n (lv' := [(3, _), (0, _), (1, _), (2, _)]) (qc_at qkX12_sorts 21 rfl) rfl rfl <| qc_aload_n (qc_at qkX12_sorts 22 rfl) rfl <| qc_gR (qc_at qkX12_sorts 23 rfl) hn rfl (qfr_291_84 hR) rfl <| qc_iload_n (qc_at qkX12_sorts 24 rfl) rfl <| hx) ?_
    obtain ⟨g15, h⟩ := qc_gd_of h
    exact And.imp_right (fun hx => qc_dald 16 (qc_at qkX12_sorts 25 rfl) hn rfl (qc_inb_in g15) <| qc_dstore (lv' := [(4, _), (3, _), (0, _), (1, _), (2, _)]) (qc_at qkX12_sorts 26 rfl) rfl rfl <| qc_iload_n (qc_at qkX12_sorts 27 rfl) rfl <| qc_istore (lv' := [(6, _), (4, _), (3, _), (0, _), (1, _), (2, _)]) (qc_at qkX12_sorts 28 rfl) rfl rfl <| qc_sub [3, 4, 5, 2, 1, 0] rfl hx) (tX12_sorts_l47 hn hk21 qcF hR h)
def fX12_sorts_l21 (w : qcW) : Nat → qTI × qTL × qTD × qTR × Int32 × Int32 → qcO Unit := qc_lp (fun k q => match q with | (I, L, D, R, x1, x2) => fX12_sorts_b21 w k I L D R x1 x2)
set_option maxRecDepth 100000 in
set_option maxHeartbeats 4000000 in
theorem tX12_sorts_l21 {w : qcW} (hn : qcNF ≤ w.1) : ∀ (n : Nat) {r : Unit} {I' : qTI} {L' : qTL} {D' : qTD} {R' : qTR} {I : qTI} {L : qTL} {D : qTD} {R : qTR} {x1 : Int32} {x2 : Int32} (hR : qc_FR R) (h : fX12_sorts_l21 w n (I, L, D, R, x1, x2) = some (r, I', L', D', R')), qc_fm qcSM (I, L, D, R) (I', L', D', R') ∧ qc_X (qc_rm (0) 0 0) qmX12_sorts (qc_QM 0 0 (qc_eq none w (I', L', D', R'))) 0 0 w (21, [(0, .ref 291), (1, .int x1), (2, .int x2)], [], I, L, D, R) := by
  intro n
  induction n with
  | zero => intro _ _ _ _ _ _ _ _ _ _ _ _ h; cases h
  | succ n ih => intro _ _ _ _ _ _ _ _ _ _ _ hR h; exact tX12_sorts_b21 hn hR (k21 := fX12_sorts_l21 w n) (fun hR h => ih hR h) h
def fX12_sorts_b18 (w : qcW) (I : qTI) (L : qTL) (D : qTD) (R : qTR) (s0 : Int32) : qcO Unit :=
  (fX12_sorts_l21 w qcF (I, L, D, R, s0, (1 : Int32)))
set_option maxRecDepth 100000 in
set_option maxHeartbeats 4000000 in
theorem tX12_sorts_b18 {w : qcW} {I : qTI} {L : qTL} {D : qTD} {R : qTR} {s0 : Int32} {r : Unit} {I' : qTI} {L' : qTL} {D' : qTD} {R' : qTR} (hn : qcNF ≤ w.1) (hR : qc_FR R) (h : fX12_sorts_b18 w I L D R s0 = some (r, I', L', D', R')) : qc_fm qcSM (I, L, D, R) (I', L', D', R') ∧ qc_X (qc_rm (0) 0 0) qmX12_sorts (qc_QM 0 0 (qc_eq none w (I', L', D', R'))) 0 0 w (18, [(0, .ref 291)], [.int s0], I, L, D, R) := by
  unfold fX12_sorts_b18 at h
  exact And.imp_right (fun hx => qc_istore_n (lv' := [(1, _), (0, _)]) (qc_at qkX12_sorts 10 rfl) rfl rfl <| qc_iconst (qc_at qkX12_sorts 11 rfl) <| qc_istore_n (lv' := [(2, _), (1, _), (0, _)]) (qc_at qkX12_sorts 12 rfl) rfl rfl <| qc_sub [2, 1, 0] rfl hx) (tX12_sorts_l21 hn qcF hR h)
def fX12_sorts (w : qcW) (I : qTI) (L : qTL) (D : qTD) (R : qTR) : qcO Unit :=
  (qc_gd (qc_inb (I 291 72) 12) <| if (I 319 (Int32.toNatClampNeg (I 291 72))) = (1 : Int32) then (fX12_sorts_b18 w I L D R (1 : Int32)) else (fX12_sorts_b18 w I L D R (0 : Int32)))
set_option maxRecDepth 100000 in
set_option maxHeartbeats 4000000 in
theorem tX12_sorts {w : qcW} {I : qTI} {L : qTL} {D : qTD} {R : qTR} {r : Unit} {I' : qTI} {L' : qTL} {D' : qTD} {R' : qTR} (hn : qcNF ≤ w.1) (hR : qc_FR R) (h : fX12_sorts w I L D R = some (r, I', L', D', R')) : qc_fm qcSM (I, L, D, R) (I', L', D', R') ∧ qc_V (0) 0 0 qmX12_sorts [.ref 291] w (I, L, D, R) (qc_eq none w (I', L', D', R')) := by
  unfold fX12_sorts at h
  refine And.imp_right (fun hx => qc_V.of rfl rfl (Nat.le_of_ble_eq_true rfl) (lv := [(0, .ref 291)]) rfl hx) ?_
  refine And.imp_right (fun hx => qc_aload_n (qc_at qkX12_sorts 0 rfl) rfl <| qc_gR (qc_at qkX12_sorts 1 rfl) hn rfl (qfr_291_45 hR) rfl <| qc_aload_n (qc_at qkX12_sorts 2 rfl) rfl <| qc_gI (qc_at qkX12_sorts 3 rfl) hn rfl <| hx) ?_
  obtain ⟨g16, h⟩ := qc_gd_of h
  refine And.imp_right (fun hx => qc_iald 12 (qc_at qkX12_sorts 4 rfl) hn rfl (qc_inb_in g16) <| qc_iconst (qc_at qkX12_sorts 5 rfl) <| hx) ?_
  refine qc_andN (qc_icmp_ne (qc_at qkX12_sorts 6 rfl)) (fun u17 => ?_) (fun u17 => ?_)
  · replace h := qc_jn u17 h
    exact And.imp_right (fun hx => qc_iconst (qc_at qkX12_sorts 9 rfl) <| qc_sub [0] rfl hx) (tX12_sorts_b18 hn hR h)
  · replace h := qc_jp u17 h
    exact And.imp_right (fun hx => qc_iconst (qc_at qkX12_sorts 7 rfl) <| qc_goto (qc_at qkX12_sorts 8 rfl) <| qc_sub [0] rfl hx) (tX12_sorts_b18 hn hR h)
def fX12_takesBack_b7 (w : qcW) (k7 : qTI × qTL × qTD × qTR × Int32 → qcO Unit) (I : qTI) (L : qTL) (D : qTD) (R : qTR) (x1 : Int32) : qcO Unit :=
  (if x1 < 0 then (some ((), I, L, D, R)) else (qc_gd (qc_inb x1 16) <| qc_gd (qc_inb x1 16) <| qc_gd (qc_inb (I 330 (Int32.toNatClampNeg x1)) 176) <| qc_gd (qc_inb x1 16) <| qc_gd (qc_inb x1 16) <| qc_gd (qc_inb (I 330 (Int32.toNatClampNeg x1)) 176) <| k7 (I, (qc_u L 295 (Int32.toNatClampNeg (I 330 (Int32.toNatClampNeg x1))) (L 331 (Int32.toNatClampNeg x1))), (qc_u D 296 (Int32.toNatClampNeg (I 330 (Int32.toNatClampNeg x1))) (D 332 (Int32.toNatClampNeg x1))), R, (x1 + (-1)))))
set_option maxRecDepth 100000 in
set_option maxHeartbeats 4000000 in
theorem tX12_takesBack_b7 {w : qcW} {I : qTI} {L : qTL} {D : qTD} {R : qTR} {k7 : qTI × qTL × qTD × qTR × Int32 → qcO Unit} {x1 : Int32} {r : Unit} {I' : qTI} {L' : qTL} {D' : qTD} {R' : qTR} (hn : qcNF ≤ w.1) (hR : qc_FR R) (hk7 : ∀ {I : qTI} {L : qTL} {D : qTD} {R : qTR} {x1 : Int32} {r : Unit} {I' : qTI} {L' : qTL} {D' : qTD} {R' : qTR}, qc_FR R → k7 (I, L, D, R, x1) = some (r, I', L', D', R') → qc_fm qcSM (I, L, D, R) (I', L', D', R') ∧ qc_X (qc_rm (0) 0 0) qmX12_takesBack (qc_QM 0 0 (qc_eq none w (I', L', D', R'))) 0 0 w (7, [(0, .ref 291), (1, .int x1)], [], I, L, D, R)) (h : fX12_takesBack_b7 w k7 I L D R x1 = some (r, I', L', D', R')) : qc_fm qcSM (I, L, D, R) (I', L', D', R') ∧ qc_X (qc_rm (0) 0 0) qmX12_takesBack (qc_QM 0 0 (qc_eq none w (I', L', D', R'))) 0 0 w (7, [(0, .ref 291), (1, .int x1)], [], I, L, D, R) := by
  unfold fX12_takesBack_b7 at h
  refine And.imp_right (fun hx => qc_iload_n (qc_at qkX12_takesBack 5 rfl) rfl <| hx) ?_
  refine qc_andC (qc_if_lt (qc_at qkX12_takesBack 6 rfl)) (fun u1 => ?_) (fun u1 => ?_)
  · replace h := qc_jp u1 h
    obtain ⟨rfl, rfl, rfl, rfl, rfl⟩ := qc_some5 h
    exact ⟨qc_fm.rf _, qc_vret (qc_at qkX12_takesBack 31 rfl) rfl (Nat.le_refl _) (Nat.le_refl _) (qc_eq.rf _ _ _)⟩
  · replace h := qc_jn u1 h
    refine And.imp_right (fun hx => qc_aload_n (qc_at qkX12_takesBack 7 rfl) rfl <| qc_gR (qc_at qkX12_takesBack 8 rfl) hn rfl (qfr_291_4 hR) rfl <| qc_aload_n (qc_at qkX12_takesBack 9 rfl) rfl <| qc_gR (qc_at qkX12_takesBack 10 rfl) hn rfl (qfr_291_74 hR) rfl <| qc_iload_n (qc_at qkX12_takesBack 11 rfl) rfl <| hx) ?_
    obtain ⟨g2, h⟩ := qc_gd_of h
    refine And.imp_right (fun hx => qc_iald 16 (qc_at qkX12_takesBack 12 rfl) hn rfl (qc_inb_in g2) <| qc_aload_n (qc_at qkX12_takesBack 13 rfl) rfl <| qc_gR (qc_at qkX12_takesBack 14 rfl) hn rfl (qfr_291_75 hR) rfl <| qc_iload_n (qc_at qkX12_takesBack 15 rfl) rfl <| hx) ?_
    obtain ⟨g3, h⟩ := qc_gd_of h
    refine And.imp_right (fun hx => qc_lald 16 (qc_at qkX12_takesBack 16 rfl) hn rfl (qc_inb_in g3) <| hx) ?_
    obtain ⟨g4, h⟩ := qc_gd_of h
    refine qd_last 176 (qc_at qkX12_takesBack 17 rfl) hn rfl (qc_inb_in g4) rfl ?_
    refine And.imp_right (fun hx => qc_aload_n (qc_at qkX12_takesBack 18 rfl) rfl <| qc_gR (qc_at qkX12_takesBack 19 rfl) hn rfl (qfr_291_5 hR) rfl <| qc_aload_n (qc_at qkX12_takesBack 20 rfl) rfl <| qc_gR (qc_at qkX12_takesBack 21 rfl) hn rfl (qfr_291_74 hR) rfl <| qc_iload_n (qc_at qkX12_takesBack 22 rfl) rfl <| hx) ?_
    obtain ⟨g5, h⟩ := qc_gd_of h
    refine And.imp_right (fun hx => qc_iald 16 (qc_at qkX12_takesBack 23 rfl) hn rfl (qc_inb_in g5) <| qc_aload_n (qc_at qkX12_takesBack 24 rfl) rfl <| qc_gR (qc_at qkX12_takesBack 25 rfl) hn rfl (qfr_291_76 hR) rfl <| qc_iload_n (qc_at qkX12_takesBack 26 rfl) rfl <| hx) ?_
    obtain ⟨g6, h⟩ := qc_gd_of h
    refine And.imp_right (fun hx => qc_dald 16 (qc_at qkX12_takesBack 27 rfl) hn rfl (qc_inb_in g6) <| hx) ?_
    obtain ⟨g7, h⟩ := qc_gd_of h
    refine qd_dast 176 (qc_at qkX12_takesBack 28 rfl) hn rfl (qc_inb_in g7) rfl ?_
    exact And.imp_right (fun hx => qc_iinc (lv' := [(1, _), (0, _)]) (qc_at qkX12_takesBack 29 rfl) rfl rfl rfl <| qc_goto (qc_at qkX12_takesBack 30 rfl) <| qc_sub [1, 0] rfl hx) (hk7 hR h)
def fX12_takesBack_l7 (w : qcW) : Nat → qTI × qTL × qTD × qTR × Int32 → qcO Unit := qc_lp (fun k q => match q with | (I, L, D, R, x1) => fX12_takesBack_b7 w k I L D R x1)
set_option maxRecDepth 100000 in
set_option maxHeartbeats 4000000 in
theorem tX12_takesBack_l7 {w : qcW} (hn : qcNF ≤ w.1) : ∀ (n : Nat) {r : Unit} {I' : qTI} {L' : qTL} {D' : qTD} {R' : qTR} {I : qTI} {L : qTL} {D : qTD} {R : qTR} {x1 : Int32} (hR : qc_FR R) (h : fX12_takesBack_l7 w n (I, L, D, R, x1) = some (r, I', L', D', R')), qc_fm qcSM (I, L, D, R) (I', L', D', R') ∧ qc_X (qc_rm (0) 0 0) qmX12_takesBack (qc_QM 0 0 (qc_eq none w (I', L', D', R'))) 0 0 w (7, [(0, .ref 291), (1, .int x1)], [], I, L, D, R) := by
  intro n
  induction n with
  | zero => intro _ _ _ _ _ _ _ _ _ _ _ h; cases h
  | succ n ih => intro _ _ _ _ _ _ _ _ _ _ hR h; exact tX12_takesBack_b7 hn hR (k7 := fX12_takesBack_l7 w n) (fun hR h => ih hR h) h
def fX12_takesBack (w : qcW) (I : qTI) (L : qTL) (D : qTD) (R : qTR) : qcO Unit :=
  (fX12_takesBack_l7 w qcF (I, L, D, R, ((I 291 73) - (1 : Int32))))
set_option maxRecDepth 100000 in
set_option maxHeartbeats 4000000 in
theorem tX12_takesBack {w : qcW} {I : qTI} {L : qTL} {D : qTD} {R : qTR} {r : Unit} {I' : qTI} {L' : qTL} {D' : qTD} {R' : qTR} (hn : qcNF ≤ w.1) (hR : qc_FR R) (h : fX12_takesBack w I L D R = some (r, I', L', D', R')) : qc_fm qcSM (I, L, D, R) (I', L', D', R') ∧ qc_V (0) 0 0 qmX12_takesBack [.ref 291] w (I, L, D, R) (qc_eq none w (I', L', D', R')) := by
  unfold fX12_takesBack at h
  refine And.imp_right (fun hx => qc_V.of rfl rfl (Nat.le_of_ble_eq_true rfl) (lv := [(0, .ref 291)]) rfl hx) ?_
  exact And.imp_right (fun hx => qc_aload_n (qc_at qkX12_takesBack 0 rfl) rfl <| qc_gI (qc_at qkX12_takesBack 1 rfl) hn rfl <| qc_iconst (qc_at qkX12_takesBack 2 rfl) <| qc_isub (qc_at qkX12_takesBack 3 rfl) <| qc_istore_n (lv' := [(1, _), (0, _)]) (qc_at qkX12_takesBack 4 rfl) rfl rfl <| qc_sub [1, 0] rfl hx) (tX12_takesBack_l7 hn qcF hR h)
