def fX12_layAll_b12 (w : qcW) (k12 : qTI × qTL × qTD × qTR → qcO Unit) (I : qTI) (L : qTL) (D : qTD) (R : qTR) : qcO Unit :=
  (if (I 291 52) ≤ 0 then (some ((), I, L, D, R)) else (if (I 291 51) = 0 then (qc_gd (qc_inb ((qc_u I 291 52 ((I 291 52) - (1 : Int32))) 291 52) 2000) <| qc_gd (qc_inb ((qc_u I 291 52 ((I 291 52) - (1 : Int32))) 291 52) 2000) <| qc_gd (qc_inb ((qc_u I 291 52 ((I 291 52) - (1 : Int32))) 291 52) 2000) <| if ((qc_u I 291 52 ((I 291 52) - (1 : Int32))) 324 (Int32.toNatClampNeg ((qc_u I 291 52 ((I 291 52) - (1 : Int32))) 291 52))) = 0 then (qc_bd (fX12_unfold w (qc_u I 291 52 ((I 291 52) - (1 : Int32))) L D R ((qc_u I 291 52 ((I 291 52) - (1 : Int32))) 325 (Int32.toNatClampNeg ((qc_u I 291 52 ((I 291 52) - (1 : Int32))) 291 52)))) fun r7 I7 L7 D7 R7 => k12 (I7, L7, D7, R7)) else if ((qc_u I 291 52 ((I 291 52) - (1 : Int32))) 324 (Int32.toNatClampNeg ((qc_u I 291 52 ((I 291 52) - (1 : Int32))) 291 52))) = 1 then (qc_bd (fX12_becomes w (qc_u I 291 52 ((I 291 52) - (1 : Int32))) L D R ((qc_u I 291 52 ((I 291 52) - (1 : Int32))) 325 (Int32.toNatClampNeg ((qc_u I 291 52 ((I 291 52) - (1 : Int32))) 291 52))) ((qc_u I 291 52 ((I 291 52) - (1 : Int32))) 326 (Int32.toNatClampNeg ((qc_u I 291 52 ((I 291 52) - (1 : Int32))) 291 52)))) fun r9 I9 L9 D9 R9 => k12 (I9, L9, D9, R9)) else if ((qc_u I 291 52 ((I 291 52) - (1 : Int32))) 324 (Int32.toNatClampNeg ((qc_u I 291 52 ((I 291 52) - (1 : Int32))) 291 52))) = 2 then (qc_bd (fX12_emit w (qc_u I 291 52 ((I 291 52) - (1 : Int32))) L D R ((qc_u I 291 52 ((I 291 52) - (1 : Int32))) 325 (Int32.toNatClampNeg ((qc_u I 291 52 ((I 291 52) - (1 : Int32))) 291 52))) ((qc_u I 291 52 ((I 291 52) - (1 : Int32))) 326 (Int32.toNatClampNeg ((qc_u I 291 52 ((I 291 52) - (1 : Int32))) 291 52)))) fun r11 I11 L11 D11 R11 => k12 (I11, L11, D11, R11)) else if ((qc_u I 291 52 ((I 291 52) - (1 : Int32))) 324 (Int32.toNatClampNeg ((qc_u I 291 52 ((I 291 52) - (1 : Int32))) 291 52))) = 3 then (qc_bd (fX12_here w (qc_u I 291 52 ((I 291 52) - (1 : Int32))) L D R) fun r13 I13 L13 D13 R13 => qc_gd (qc_inb ((qc_u I 291 52 ((I 291 52) - (1 : Int32))) 326 (Int32.toNatClampNeg ((qc_u I 291 52 ((I 291 52) - (1 : Int32))) 291 52))) 840) <| qc_bd (fX12_emit w (qc_u I13 327 (Int32.toNatClampNeg ((qc_u I 291 52 ((I 291 52) - (1 : Int32))) 326 (Int32.toNatClampNeg ((qc_u I 291 52 ((I 291 52) - (1 : Int32))) 291 52)))) r13) L13 D13 R13 ((qc_u I 291 52 ((I 291 52) - (1 : Int32))) 325 (Int32.toNatClampNeg ((qc_u I 291 52 ((I 291 52) - (1 : Int32))) 291 52))) (0 : Int32)) fun r15 I15 L15 D15 R15 => k12 (I15, L15, D15, R15)) else if ((qc_u I 291 52 ((I 291 52) - (1 : Int32))) 324 (Int32.toNatClampNeg ((qc_u I 291 52 ((I 291 52) - (1 : Int32))) 291 52))) = 4 then (qc_gd (qc_inb ((qc_u I 291 52 ((I 291 52) - (1 : Int32))) 325 (Int32.toNatClampNeg ((qc_u I 291 52 ((I 291 52) - (1 : Int32))) 291 52))) 840) <| qc_bd (fX12_patch w (qc_u I 291 52 ((I 291 52) - (1 : Int32))) L D R ((qc_u I 291 52 ((I 291 52) - (1 : Int32))) 327 (Int32.toNatClampNeg ((qc_u I 291 52 ((I 291 52) - (1 : Int32))) 325 (Int32.toNatClampNeg ((qc_u I 291 52 ((I 291 52) - (1 : Int32))) 291 52)))))) fun r18 I18 L18 D18 R18 => k12 (I18, L18, D18, R18)) else (qc_bd (fX12_casts w (qc_u I 291 52 ((I 291 52) - (1 : Int32))) L D R ((qc_u I 291 52 ((I 291 52) - (1 : Int32))) 325 (Int32.toNatClampNeg ((qc_u I 291 52 ((I 291 52) - (1 : Int32))) 291 52))) ((qc_u I 291 52 ((I 291 52) - (1 : Int32))) 326 (Int32.toNatClampNeg ((qc_u I 291 52 ((I 291 52) - (1 : Int32))) 291 52)))) fun r19 I19 L19 D19 R19 => k12 (I19, L19, D19, R19))) else (some ((), I, L, D, R))))
set_option maxRecDepth 100000 in
set_option maxHeartbeats 4000000 in
theorem tX12_layAll_b12 {w : qcW} {I : qTI} {L : qTL} {D : qTD} {R : qTR} {k12 : qTI × qTL × qTD × qTR → qcO Unit} {r : Unit} {I' : qTI} {L' : qTL} {D' : qTD} {R' : qTR} (hn : qcNF ≤ w.1) (hR : qc_FR R) (hk12 : ∀ {I : qTI} {L : qTL} {D : qTD} {R : qTR} {r : Unit} {I' : qTI} {L' : qTL} {D' : qTD} {R' : qTR}, qc_FR R → k12 (I, L, D, R) = some (r, I', L', D', R') → qc_fm qcSM (I, L, D, R) (I', L', D', R') ∧ qc_X (qc_rm (4) 0 0) qmX12_layAll (qc_QM 0 0 (qc_eq none w (I', L', D', R'))) 0 0 w (12, [(0, .ref 291)], [], I, L, D, R)) (h : fX12_layAll_b12 w k12 I L D R = some (r, I', L', D', R')) : qc_fm qcSM (I, L, D, R) (I', L', D', R') ∧ qc_X (qc_rm (4) 0 0) qmX12_layAll (qc_QM 0 0 (qc_eq none w (I', L', D', R'))) 0 0 w (12, [(0, .ref 291)], [], I, L, D, R) := by
  unfold fX12_layAll_b12 at h
  refine And.imp_right (fun hx => qc_aload_n (qc_at qkX12_layAll 8 rfl) rfl <| qc_gI (qc_at qkX12_layAll 9 rfl) hn rfl <| hx) ?_
  refine qc_andC (qc_if_le (qc_at qkX12_layAll 10 rfl)) (fun u1 => ?_) (fun u1 => ?_)
  · replace h := qc_jp u1 h
    obtain ⟨rfl, rfl, rfl, rfl, rfl⟩ := qc_some5 h
    exact ⟨qc_fm.rf _, qc_vret (qc_at qkX12_layAll 75 rfl) rfl (Nat.le_refl _) (Nat.le_refl _) (qc_eq.rf _ _ _)⟩
  · replace h := qc_jn u1 h
    refine And.imp_right (fun hx => qc_aload_n (qc_at qkX12_layAll 11 rfl) rfl <| qc_gI (qc_at qkX12_layAll 12 rfl) hn rfl <| hx) ?_
    refine qc_andN (qc_if_ne (qc_at qkX12_layAll 13 rfl)) (fun u2 => ?_) (fun u2 => ?_)
    · replace h := qc_jn u2 h
      obtain ⟨rfl, rfl, rfl, rfl, rfl⟩ := qc_some5 h
      exact ⟨qc_fm.rf _, qc_vret (qc_at qkX12_layAll 75 rfl) rfl (Nat.le_refl _) (Nat.le_refl _) (qc_eq.rf _ _ _)⟩
    · replace h := qc_jp u2 h
      refine And.imp_right (fun hx => qc_aload_n (qc_at qkX12_layAll 14 rfl) rfl <| qc_dup (qc_at qkX12_layAll 15 rfl) rfl <| qc_gI (qc_at qkX12_layAll 16 rfl) hn rfl <| qc_iconst (qc_at qkX12_layAll 17 rfl) <| qc_isub (qc_at qkX12_layAll 18 rfl) <| hx) (qd_pI (qc_at qkX12_layAll 19 rfl) hn rfl rfl ?_)
      refine And.imp_right (fun hx => qc_aload_n (qc_at qkX12_layAll 20 rfl) rfl <| qc_gR (qc_at qkX12_layAll 21 rfl) hn rfl (qfr_291_54 hR) rfl <| qc_aload_n (qc_at qkX12_layAll 22 rfl) rfl <| qc_gI (qc_at qkX12_layAll 23 rfl) hn rfl <| hx) ?_
      obtain ⟨g3, h⟩ := qc_gd_of h
      refine And.imp_right (fun hx => qc_iald 2000 (qc_at qkX12_layAll 24 rfl) hn rfl (qc_inb_in g3) <| qc_istore_n (lv' := [(2, _), (0, _)]) (qc_at qkX12_layAll 25 rfl) rfl rfl <| qc_aload_n (qc_at qkX12_layAll 26 rfl) rfl <| qc_gR (qc_at qkX12_layAll 27 rfl) hn rfl (qfr_291_55 hR) rfl <| qc_aload_n (qc_at qkX12_layAll 28 rfl) rfl <| qc_gI (qc_at qkX12_layAll 29 rfl) hn rfl <| hx) ?_
      obtain ⟨g4, h⟩ := qc_gd_of h
      refine And.imp_right (fun hx => qc_iald 2000 (qc_at qkX12_layAll 30 rfl) hn rfl (qc_inb_in g4) <| qc_istore_n (lv' := [(3, _), (2, _), (0, _)]) (qc_at qkX12_layAll 31 rfl) rfl rfl <| qc_aload_n (qc_at qkX12_layAll 32 rfl) rfl <| qc_gR (qc_at qkX12_layAll 33 rfl) hn rfl (qfr_291_53 hR) rfl <| qc_aload_n (qc_at qkX12_layAll 34 rfl) rfl <| qc_gI (qc_at qkX12_layAll 35 rfl) hn rfl <| hx) ?_
      obtain ⟨g5, h⟩ := qc_gd_of h
      refine And.imp_right (fun hx => qc_iald 2000 (qc_at qkX12_layAll 36 rfl) hn rfl (qc_inb_in g5) <| hx) ?_
      refine qc_by (c := ((qc_u I 291 52 ((I 291 52) - (1 : Int32))) 324 (Int32.toNatClampNeg ((qc_u I 291 52 ((I 291 52) - (1 : Int32))) 291 52))) = 0) (fun u6 => ?_) (fun u6 => ?_)
      · refine And.imp_right (fun hx => qc_tabIn (qc_at qkX12_layAll 37 rfl) 0 (by rw [u6]; rfl) (by decide) rfl rfl hx) ?_
        replace h := qc_jp u6 h
        refine And.imp_right (fun hx => qc_aload_n (qc_at qkX12_layAll 38 rfl) rfl <| qc_iload_n (qc_at qkX12_layAll 39 rfl) rfl <| hx) ?_
        obtain ⟨r7, I7, L7, D7, R7, e7, h⟩ := qc_bd_of h
        have c7 := (tX12_unfold hn hR e7)
        refine qd_cVn (ci := 10) (a0 := 291) (qc_at qkX12_layAll 40 rfl) ql_12_491 qfX12_unfold (qc_kf hn rfl) rfl c7 rfl rfl (Nat.le_of_ble_eq_true rfl) (qc_rml (by decide) (by decide)) ⟨Nat.zero_le _, Nat.zero_le _⟩ ?_
        exact And.imp_right (fun hx => qc_goto (qc_at qkX12_layAll 41 rfl) <| qc_goto (qc_at qkX12_layAll 74 rfl) <| qc_sub [2] rfl hx) (hk12 (c7.1.1 hR) h)
      · replace h := qc_jn u6 h
        refine qc_by (c := ((qc_u I 291 52 ((I 291 52) - (1 : Int32))) 324 (Int32.toNatClampNeg ((qc_u I 291 52 ((I 291 52) - (1 : Int32))) 291 52))) = 1) (fun u8 => ?_) (fun u8 => ?_)
        · refine And.imp_right (fun hx => qc_tabIn (qc_at qkX12_layAll 37 rfl) 1 (by rw [u8]; rfl) (by decide) rfl rfl hx) ?_
          replace h := qc_jp u8 h
          refine And.imp_right (fun hx => qc_aload_n (qc_at qkX12_layAll 42 rfl) rfl <| qc_iload_n (qc_at qkX12_layAll 43 rfl) rfl <| qc_iload_n (qc_at qkX12_layAll 44 rfl) rfl <| hx) ?_
          obtain ⟨r9, I9, L9, D9, R9, e9, h⟩ := qc_bd_of h
          have c9 := (tX12_becomes hn hR e9)
          refine qd_cVn (ci := 10) (a0 := 291) (qc_at qkX12_layAll 45 rfl) ql_12_481 qfX12_becomes (qc_kf hn rfl) rfl c9 rfl rfl (Nat.le_of_ble_eq_true rfl) (qc_rml (by decide) (by decide)) ⟨Nat.zero_le _, Nat.zero_le _⟩ ?_
          exact And.imp_right (fun hx => qc_goto (qc_at qkX12_layAll 46 rfl) <| qc_goto (qc_at qkX12_layAll 74 rfl) <| qc_sub [2] rfl hx) (hk12 (c9.1.1 hR) h)
        · replace h := qc_jn u8 h
          refine qc_by (c := ((qc_u I 291 52 ((I 291 52) - (1 : Int32))) 324 (Int32.toNatClampNeg ((qc_u I 291 52 ((I 291 52) - (1 : Int32))) 291 52))) = 2) (fun u10 => ?_) (fun u10 => ?_)
          · refine And.imp_right (fun hx => qc_tabIn (qc_at qkX12_layAll 37 rfl) 2 (by rw [u10]; rfl) (by decide) rfl rfl hx) ?_
            replace h := qc_jp u10 h
            refine And.imp_right (fun hx => qc_aload_n (qc_at qkX12_layAll 47 rfl) rfl <| qc_iload_n (qc_at qkX12_layAll 48 rfl) rfl <| qc_iload_n (qc_at qkX12_layAll 49 rfl) rfl <| hx) ?_
            obtain ⟨r11, I11, L11, D11, R11, e11, h⟩ := qc_bd_of h
            have c11 := (tX12_emit hn hR e11)
            refine qd_cVn (ci := 10) (a0 := 291) (qc_at qkX12_layAll 50 rfl) ql_12_478 qfX12_emit (qc_kf hn rfl) rfl c11 rfl rfl (Nat.le_of_ble_eq_true rfl) (qc_rml (by decide) (by decide)) ⟨Nat.zero_le _, Nat.zero_le _⟩ ?_
            exact And.imp_right (fun hx => qc_goto (qc_at qkX12_layAll 51 rfl) <| qc_goto (qc_at qkX12_layAll 74 rfl) <| qc_sub [2] rfl hx) (hk12 (c11.1.1 hR) h)
          · replace h := qc_jn u10 h
            refine qc_by (c := ((qc_u I 291 52 ((I 291 52) - (1 : Int32))) 324 (Int32.toNatClampNeg ((qc_u I 291 52 ((I 291 52) - (1 : Int32))) 291 52))) = 3) (fun u12 => ?_) (fun u12 => ?_)
            · refine And.imp_right (fun hx => qc_tabIn (qc_at qkX12_layAll 37 rfl) 3 (by rw [u12]; rfl) (by decide) rfl rfl hx) ?_
              replace h := qc_jp u12 h
              refine And.imp_right (fun hx => qc_aload_n (qc_at qkX12_layAll 52 rfl) rfl <| qc_gR (qc_at qkX12_layAll 53 rfl) hn rfl (qfr_291_56 hR) rfl <| qc_iload_n (qc_at qkX12_layAll 54 rfl) rfl <| qc_aload_n (qc_at qkX12_layAll 55 rfl) rfl <| hx) ?_
              obtain ⟨r13, I13, L13, D13, R13, e13, h⟩ := qc_bd_of h
              have c13 := (tX12_here hn hR e13)
              refine qd_cVv (ci := 10) (a0 := 291) (qc_at qkX12_layAll 56 rfl) ql_12_471 qfX12_here (qc_kf hn rfl) rfl c13 rfl rfl (Nat.le_of_ble_eq_true rfl) (qc_rml (by decide) (by decide)) ⟨Nat.zero_le _, Nat.zero_le _⟩ ?_
              obtain ⟨g14, h⟩ := qc_gd_of h
              refine qd_iast 840 (qc_at qkX12_layAll 57 rfl) hn rfl (qc_inb_in g14) rfl ?_
              refine And.imp_right (fun hx => qc_aload_n (qc_at qkX12_layAll 58 rfl) rfl <| qc_iload_n (qc_at qkX12_layAll 59 rfl) rfl <| qc_iconst (qc_at qkX12_layAll 60 rfl) <| hx) ?_
              obtain ⟨r15, I15, L15, D15, R15, e15, h⟩ := qc_bd_of h
              have c15 := (tX12_emit hn (c13.1.1 hR) e15)
              refine qd_cVn (ci := 10) (a0 := 291) (qc_at qkX12_layAll 61 rfl) ql_12_478 qfX12_emit (qc_kf hn rfl) rfl c15 rfl rfl (Nat.le_of_ble_eq_true rfl) (qc_rml (by decide) (by decide)) ⟨Nat.zero_le _, Nat.zero_le _⟩ ?_
              exact And.imp_right (fun hx => qc_goto (qc_at qkX12_layAll 62 rfl) <| qc_goto (qc_at qkX12_layAll 74 rfl) <| qc_sub [2] rfl hx) (hk12 (c15.1.1 (c13.1.1 hR)) h)
            · replace h := qc_jn u12 h
              refine qc_by (c := ((qc_u I 291 52 ((I 291 52) - (1 : Int32))) 324 (Int32.toNatClampNeg ((qc_u I 291 52 ((I 291 52) - (1 : Int32))) 291 52))) = 4) (fun u16 => ?_) (fun u16 => ?_)
              · refine And.imp_right (fun hx => qc_tabIn (qc_at qkX12_layAll 37 rfl) 4 (by rw [u16]; rfl) (by decide) rfl rfl hx) ?_
                replace h := qc_jp u16 h
                refine And.imp_right (fun hx => qc_aload_n (qc_at qkX12_layAll 63 rfl) rfl <| qc_aload_n (qc_at qkX12_layAll 64 rfl) rfl <| qc_gR (qc_at qkX12_layAll 65 rfl) hn rfl (qfr_291_56 hR) rfl <| qc_iload_n (qc_at qkX12_layAll 66 rfl) rfl <| hx) ?_
                obtain ⟨g17, h⟩ := qc_gd_of h
                refine And.imp_right (fun hx => qc_iald 840 (qc_at qkX12_layAll 67 rfl) hn rfl (qc_inb_in g17) <| hx) ?_
                obtain ⟨r18, I18, L18, D18, R18, e18, h⟩ := qc_bd_of h
                have c18 := (tX12_patch hn hR e18)
                refine qd_cVn (ci := 10) (a0 := 291) (qc_at qkX12_layAll 68 rfl) ql_12_494 qfX12_patch (qc_kf hn rfl) rfl c18 rfl rfl (Nat.le_of_ble_eq_true rfl) (qc_rml (by decide) (by decide)) ⟨Nat.zero_le _, Nat.zero_le _⟩ ?_
                exact And.imp_right (fun hx => qc_goto (qc_at qkX12_layAll 69 rfl) <| qc_goto (qc_at qkX12_layAll 74 rfl) <| qc_sub [2] rfl hx) (hk12 (c18.1.1 hR) h)
              · replace h := qc_jn u16 h
                have v6 : ¬ Int32.toInt ((qc_u I 291 52 ((I 291 52) - (1 : Int32))) 324 (Int32.toNatClampNeg ((qc_u I 291 52 ((I 291 52) - (1 : Int32))) 291 52))) = 0 := fun z => u6 (qc_i32 z rfl)
                have v8 : ¬ Int32.toInt ((qc_u I 291 52 ((I 291 52) - (1 : Int32))) 324 (Int32.toNatClampNeg ((qc_u I 291 52 ((I 291 52) - (1 : Int32))) 291 52))) = 1 := fun z => u8 (qc_i32 z rfl)
                have v10 : ¬ Int32.toInt ((qc_u I 291 52 ((I 291 52) - (1 : Int32))) 324 (Int32.toNatClampNeg ((qc_u I 291 52 ((I 291 52) - (1 : Int32))) 291 52))) = 2 := fun z => u10 (qc_i32 z rfl)
                have v12 : ¬ Int32.toInt ((qc_u I 291 52 ((I 291 52) - (1 : Int32))) 324 (Int32.toNatClampNeg ((qc_u I 291 52 ((I 291 52) - (1 : Int32))) 291 52))) = 3 := fun z => u12 (qc_i32 z rfl)
                have v16 : ¬ Int32.toInt ((qc_u I 291 52 ((I 291 52) - (1 : Int32))) 324 (Int32.toNatClampNeg ((qc_u I 291 52 ((I 291 52) - (1 : Int32))) 291 52))) = 4 := fun z => u16 (qc_i32 z rfl)
                refine And.imp_right (fun hx => qc_tabOut (qc_at qkX12_layAll 37 rfl) (by omega) rfl hx) ?_
                refine And.imp_right (fun hx => qc_aload_n (qc_at qkX12_layAll 70 rfl) rfl <| qc_iload_n (qc_at qkX12_layAll 71 rfl) rfl <| qc_iload_n (qc_at qkX12_layAll 72 rfl) rfl <| hx) ?_
                obtain ⟨r19, I19, L19, D19, R19, e19, h⟩ := qc_bd_of h
                have c19 := (tX12_casts hn hR e19)
                refine qd_cVn (ci := 10) (a0 := 291) (qc_at qkX12_layAll 73 rfl) ql_12_497 qfX12_casts (qc_kf hn rfl) rfl c19 rfl rfl (Nat.le_of_ble_eq_true rfl) (qc_rml (by decide) (by decide)) ⟨Nat.zero_le _, Nat.zero_le _⟩ ?_
                exact And.imp_right (fun hx => qc_goto (qc_at qkX12_layAll 74 rfl) <| qc_sub [2] rfl hx) (hk12 (c19.1.1 hR) h)
def fX12_layAll_l12 (w : qcW) : Nat → qTI × qTL × qTD × qTR → qcO Unit := qc_lp (fun k q => match q with | (I, L, D, R) => fX12_layAll_b12 w k I L D R)
set_option maxRecDepth 100000 in
set_option maxHeartbeats 4000000 in
theorem tX12_layAll_l12 {w : qcW} (hn : qcNF ≤ w.1) : ∀ (n : Nat) {r : Unit} {I' : qTI} {L' : qTL} {D' : qTD} {R' : qTR} {I : qTI} {L : qTL} {D : qTD} {R : qTR} (hR : qc_FR R) (h : fX12_layAll_l12 w n (I, L, D, R) = some (r, I', L', D', R')), qc_fm qcSM (I, L, D, R) (I', L', D', R') ∧ qc_X (qc_rm (4) 0 0) qmX12_layAll (qc_QM 0 0 (qc_eq none w (I', L', D', R'))) 0 0 w (12, [(0, .ref 291)], [], I, L, D, R) := by
  intro n
  induction n with
  | zero => intro _ _ _ _ _ _ _ _ _ _ h; cases h
  | succ n ih => intro _ _ _ _ _ _ _ _ _ hR h; exact tX12_layAll_b12 hn hR (k12 := fX12_layAll_l12 w n) (fun hR h => ih hR h) h
def fX12_layAll (w : qcW) (I : qTI) (L : qTL) (D : qTD) (R : qTR) (x1 : Int32) : qcO Unit :=
  (qc_bd (fX12_task w (qc_u I 291 52 (0 : Int32)) L D R (0 : Int32) x1 (0 : Int32)) fun r20 I20 L20 D20 R20 => fX12_layAll_l12 w qcF (I20, L20, D20, R20))
set_option maxRecDepth 100000 in
set_option maxHeartbeats 4000000 in
theorem tX12_layAll {w : qcW} {I : qTI} {L : qTL} {D : qTD} {R : qTR} {x1 : Int32} {r : Unit} {I' : qTI} {L' : qTL} {D' : qTD} {R' : qTR} (hn : qcNF ≤ w.1) (hR : qc_FR R) (h : fX12_layAll w I L D R x1 = some (r, I', L', D', R')) : qc_fm qcSM (I, L, D, R) (I', L', D', R') ∧ qc_V (4) 0 0 qmX12_layAll [.ref 291, .int x1] w (I, L, D, R) (qc_eq none w (I', L', D', R')) := by
  unfold fX12_layAll at h
  refine And.imp_right (fun hx => qc_V.of rfl rfl (Nat.le_of_ble_eq_true rfl) (lv := [(0, .ref 291), (1, .int x1)]) rfl hx) ?_
  refine And.imp_right (fun hx => qc_aload_n (qc_at qkX12_layAll 0 rfl) rfl <| qc_iconst (qc_at qkX12_layAll 1 rfl) <| hx) (qd_pI (qc_at qkX12_layAll 2 rfl) hn rfl rfl ?_)
  refine And.imp_right (fun hx => qc_aload_n (qc_at qkX12_layAll 3 rfl) rfl <| qc_iconst (qc_at qkX12_layAll 4 rfl) <| qc_iload_n (qc_at qkX12_layAll 5 rfl) rfl <| qc_iconst (qc_at qkX12_layAll 6 rfl) <| hx) ?_
  obtain ⟨r20, I20, L20, D20, R20, e20, h⟩ := qc_bd_of h
  have c20 := (tX12_task hn hR e20)
  refine qd_cVn (ci := 10) (a0 := 291) (qc_at qkX12_layAll 7 rfl) ql_12_487 qfX12_task (qc_kf hn rfl) rfl c20 rfl rfl (Nat.le_of_ble_eq_true rfl) (qc_rml (by decide) (by decide)) ⟨Nat.zero_le _, Nat.zero_le _⟩ ?_
  exact And.imp_right (fun hx => qc_sub [0] rfl hx) (tX12_layAll_l12 hn qcF (c20.1.1 hR) h)
def fX12_readWhere (w : qcW) (I : qTI) (L : qTL) (D : qTD) (R : qTR) : qcO Unit :=
  (qc_bd (fX12_or w I L D R) fun r1 I1 L1 D1 R1 => if ((qc_u I1 291 57 r1) 291 15) = 0 then (qc_gd (qc_inb ((qc_u I1 291 57 r1) 291 57) 420) <| if ((qc_u I1 291 57 r1) 303 (Int32.toNatClampNeg ((qc_u I1 291 57 r1) 291 57))) = 0 then (some ((), (qc_u I1 291 57 r1), L1, D1, R1)) else (qc_bd (fX12_fail w (qc_u I1 291 57 r1) L1 D1 R1 (4 : Int32) ((qc_u I1 291 57 r1) 291 10)) fun r5 I5 L5 D5 R5 => some ((), I5, L5, D5, R5))) else (some ((), (qc_u I1 291 57 r1), L1, D1, R1)))
set_option maxRecDepth 100000 in
set_option maxHeartbeats 4000000 in
theorem tX12_readWhere {w : qcW} {I : qTI} {L : qTL} {D : qTD} {R : qTR} {r : Unit} {I' : qTI} {L' : qTL} {D' : qTD} {R' : qTR} (hn : qcNF ≤ w.1) (hR : qc_FR R) (h : fX12_readWhere w I L D R = some (r, I', L', D', R')) : qc_fm qcSM (I, L, D, R) (I', L', D', R') ∧ qc_V (9) 0 0 qmX12_readWhere [.ref 291] w (I, L, D, R) (qc_eq none w (I', L', D', R')) := by
  unfold fX12_readWhere at h
  refine And.imp_right (fun hx => qc_V.of rfl rfl (Nat.le_of_ble_eq_true rfl) (lv := [(0, .ref 291)]) rfl hx) ?_
  refine And.imp_right (fun hx => qc_aload_n (qc_at qkX12_readWhere 0 rfl) rfl <| qc_aload_n (qc_at qkX12_readWhere 1 rfl) rfl <| hx) ?_
  obtain ⟨r1, I1, L1, D1, R1, e1, h⟩ := qc_bd_of h
  have c1 := (tX12_or hn hR e1)
  refine qd_cVv (ci := 10) (a0 := 291) (qc_at qkX12_readWhere 2 rfl) ql_12_512 qfX12_or (qc_kf hn rfl) rfl c1 rfl rfl (Nat.le_of_ble_eq_true rfl) (qc_rml (by decide) (by decide)) ⟨Nat.zero_le _, Nat.zero_le _⟩ ?_
  refine qd_pI (qc_at qkX12_readWhere 3 rfl) hn rfl rfl ?_
  refine And.imp_right (fun hx => qc_aload_n (qc_at qkX12_readWhere 4 rfl) rfl <| qc_gI (qc_at qkX12_readWhere 5 rfl) hn rfl <| hx) ?_
  refine qc_andN (qc_if_ne (qc_at qkX12_readWhere 6 rfl)) (fun u2 => ?_) (fun u2 => ?_)
  · replace h := qc_jn u2 h
    obtain ⟨rfl, rfl, rfl, rfl, rfl⟩ := qc_some5 h
    exact ⟨qc_fm.rf _, qc_vret (qc_at qkX12_readWhere 18 rfl) rfl (Nat.le_refl _) (Nat.le_refl _) (qc_eq.rf _ _ _)⟩
  · replace h := qc_jp u2 h
    refine And.imp_right (fun hx => qc_aload_n (qc_at qkX12_readWhere 7 rfl) rfl <| qc_gR (qc_at qkX12_readWhere 8 rfl) hn rfl (qfr_291_23 (c1.1.1 hR)) rfl <| qc_aload_n (qc_at qkX12_readWhere 9 rfl) rfl <| qc_gI (qc_at qkX12_readWhere 10 rfl) hn rfl <| hx) ?_
    obtain ⟨g3, h⟩ := qc_gd_of h
    refine And.imp_right (fun hx => qc_iald 420 (qc_at qkX12_readWhere 11 rfl) hn rfl (qc_inb_in g3) <| hx) ?_
    refine qc_andC (qc_if_eq (qc_at qkX12_readWhere 12 rfl)) (fun u4 => ?_) (fun u4 => ?_)
    · replace h := qc_jp u4 h
      obtain ⟨rfl, rfl, rfl, rfl, rfl⟩ := qc_some5 h
      exact ⟨qc_fm.rf _, qc_vret (qc_at qkX12_readWhere 18 rfl) rfl (Nat.le_refl _) (Nat.le_refl _) (qc_eq.rf _ _ _)⟩
    · replace h := qc_jn u4 h
      refine And.imp_right (fun hx => qc_aload_n (qc_at qkX12_readWhere 13 rfl) rfl <| qc_iconst (qc_at qkX12_readWhere 14 rfl) <| qc_aload_n (qc_at qkX12_readWhere 15 rfl) rfl <| qc_gI (qc_at qkX12_readWhere 16 rfl) hn rfl <| hx) ?_
      obtain ⟨r5, I5, L5, D5, R5, e5, h⟩ := qc_bd_of h
      have c5 := (tX12_fail hn (c1.1.1 hR) e5)
      refine qd_cVn (ci := 10) (a0 := 291) (qc_at qkX12_readWhere 17 rfl) ql_12_268 qfX12_fail (qc_kf hn rfl) rfl c5 rfl rfl (Nat.le_of_ble_eq_true rfl) (qc_rml (by decide) (by decide)) ⟨Nat.zero_le _, Nat.zero_le _⟩ ?_
      obtain ⟨rfl, rfl, rfl, rfl, rfl⟩ := qc_some5 h
      exact ⟨qc_fm.rf _, qc_vret (qc_at qkX12_readWhere 18 rfl) rfl (Nat.le_refl _) (Nat.le_refl _) (qc_eq.rf _ _ _)⟩
def fX12_readFind_b116 (w : qcW) (I : qTI) (L : qTL) (D : qTD) (R : qTR) : qcO Unit :=
  (qc_bd (fX12_next w (qc_u I 291 61 (I 291 13)) L D R) fun r1 I1 L1 D1 R1 => some ((), I1, L1, D1, R1))
set_option maxRecDepth 100000 in
set_option maxHeartbeats 4000000 in
theorem tX12_readFind_b116 {w : qcW} {I : qTI} {L : qTL} {D : qTD} {R : qTR} {r : Unit} {I' : qTI} {L' : qTL} {D' : qTD} {R' : qTR} (hn : qcNF ≤ w.1) (hR : qc_FR R) (h : fX12_readFind_b116 w I L D R = some (r, I', L', D', R')) : qc_fm qcSM (I, L, D, R) (I', L', D', R') ∧ qc_X (qc_rm (10) 0 0) qmX12_readFind (qc_QM 0 0 (qc_eq none w (I', L', D', R'))) 0 0 w (116, [(0, .ref 291)], [], I, L, D, R) := by
  unfold fX12_readFind_b116 at h
  refine And.imp_right (fun hx => qc_aload_n (qc_at qkX12_readFind 56 rfl) rfl <| qc_aload_n (qc_at qkX12_readFind 57 rfl) rfl <| qc_gI (qc_at qkX12_readFind 58 rfl) hn rfl <| hx) (qd_pI (qc_at qkX12_readFind 59 rfl) hn rfl rfl ?_)
  refine And.imp_right (fun hx => qc_aload_n (qc_at qkX12_readFind 60 rfl) rfl <| hx) ?_
  obtain ⟨r1, I1, L1, D1, R1, e1, h⟩ := qc_bd_of h
  have c1 := (tX12_next hn hR e1)
  refine qd_cVn (ci := 10) (a0 := 291) (qc_at qkX12_readFind 61 rfl) ql_12_304 qfX12_next (qc_kf hn rfl) rfl c1 rfl rfl (Nat.le_of_ble_eq_true rfl) (qc_rml (by decide) (by decide)) ⟨Nat.zero_le _, Nat.zero_le _⟩ ?_
  obtain ⟨rfl, rfl, rfl, rfl, rfl⟩ := qc_some5 h
  exact ⟨qc_fm.rf _, qc_vret (qc_at qkX12_readFind 62 rfl) rfl (Nat.le_refl _) (Nat.le_refl _) (qc_eq.rf _ _ _)⟩
def fX12_readFind_b78 (w : qcW) (I : qTI) (L : qTL) (D : qTD) (R : qTR) : qcO Unit :=
  (qc_bd (fX12_isWord w I L D R (6605428 : Int64)) fun r2 I2 L2 D2 R2 => if r2 = true then (qc_bd (fX12_next w I2 L2 D2 R2) fun r4 I4 L4 D4 R4 => if (I4 291 15) = 0 then (if (I4 291 9) = (2 : Int32) then (fX12_readFind_b116 w I4 L4 D4 R4) else (qc_bd (fX12_fail w I4 L4 D4 R4 (2 : Int32) (I4 291 10)) fun r7 I7 L7 D7 R7 => fX12_readFind_b116 w I7 L7 D7 R7)) else (fX12_readFind_b116 w I4 L4 D4 R4)) else (some ((), I2, L2, D2, R2)))
set_option maxRecDepth 100000 in
set_option maxHeartbeats 4000000 in
theorem tX12_readFind_b78 {w : qcW} {I : qTI} {L : qTL} {D : qTD} {R : qTR} {r : Unit} {I' : qTI} {L' : qTL} {D' : qTD} {R' : qTR} (hn : qcNF ≤ w.1) (hR : qc_FR R) (h : fX12_readFind_b78 w I L D R = some (r, I', L', D', R')) : qc_fm qcSM (I, L, D, R) (I', L', D', R') ∧ qc_X (qc_rm (10) 0 0) qmX12_readFind (qc_QM 0 0 (qc_eq none w (I', L', D', R'))) 0 0 w (78, [(0, .ref 291)], [], I, L, D, R) := by
  unfold fX12_readFind_b78 at h
  refine And.imp_right (fun hx => qc_aload_n (qc_at qkX12_readFind 38 rfl) rfl <| qc_ldc2l (qc_at qkX12_readFind 39 rfl) <| hx) ?_
  obtain ⟨r2, I2, L2, D2, R2, e2, h⟩ := qc_bd_of h
  have c2 := (tX12_isWord hn hR e2)
  refine qd_cVv (ci := 10) (a0 := 291) (qc_at qkX12_readFind 40 rfl) ql_12_358 qfX12_isWord (qc_kf hn rfl) rfl c2 rfl rfl (Nat.le_of_ble_eq_true rfl) (qc_rml (by decide) (by decide)) ⟨Nat.zero_le _, Nat.zero_le _⟩ ?_
  refine qc_andB (qc_ifB_eq (qc_at qkX12_readFind 41 rfl)) (fun u3 => ?_) (fun u3 => ?_)
  · replace h := qc_jf u3 h
    obtain ⟨rfl, rfl, rfl, rfl, rfl⟩ := qc_some5 h
    exact ⟨qc_fm.rf _, qc_vret (qc_at qkX12_readFind 62 rfl) rfl (Nat.le_refl _) (Nat.le_refl _) (qc_eq.rf _ _ _)⟩
  · replace h := qc_jt u3 h
    refine And.imp_right (fun hx => qc_aload_n (qc_at qkX12_readFind 42 rfl) rfl <| hx) ?_
    obtain ⟨r4, I4, L4, D4, R4, e4, h⟩ := qc_bd_of h
    have c4 := (tX12_next hn (c2.1.1 hR) e4)
    refine qd_cVn (ci := 10) (a0 := 291) (qc_at qkX12_readFind 43 rfl) ql_12_304 qfX12_next (qc_kf hn rfl) rfl c4 rfl rfl (Nat.le_of_ble_eq_true rfl) (qc_rml (by decide) (by decide)) ⟨Nat.zero_le _, Nat.zero_le _⟩ ?_
    refine And.imp_right (fun hx => qc_aload_n (qc_at qkX12_readFind 44 rfl) rfl <| qc_gI (qc_at qkX12_readFind 45 rfl) hn rfl <| hx) ?_
    refine qc_andN (qc_if_ne (qc_at qkX12_readFind 46 rfl)) (fun u5 => ?_) (fun u5 => ?_)
    · replace h := qc_jn u5 h
      exact And.imp_right (fun hx => qc_sub [0] rfl hx) (tX12_readFind_b116 hn (c4.1.1 (c2.1.1 hR)) h)
    · replace h := qc_jp u5 h
      refine And.imp_right (fun hx => qc_aload_n (qc_at qkX12_readFind 47 rfl) rfl <| qc_gI (qc_at qkX12_readFind 48 rfl) hn rfl <| qc_iconst (qc_at qkX12_readFind 49 rfl) <| hx) ?_
      refine qc_andC (qc_icmp_eq (qc_at qkX12_readFind 50 rfl)) (fun u6 => ?_) (fun u6 => ?_)
      · replace h := qc_jp u6 h
        exact And.imp_right (fun hx => qc_sub [0] rfl hx) (tX12_readFind_b116 hn (c4.1.1 (c2.1.1 hR)) h)
      · replace h := qc_jn u6 h
        refine And.imp_right (fun hx => qc_aload_n (qc_at qkX12_readFind 51 rfl) rfl <| qc_iconst (qc_at qkX12_readFind 52 rfl) <| qc_aload_n (qc_at qkX12_readFind 53 rfl) rfl <| qc_gI (qc_at qkX12_readFind 54 rfl) hn rfl <| hx) ?_
        obtain ⟨r7, I7, L7, D7, R7, e7, h⟩ := qc_bd_of h
        have c7 := (tX12_fail hn (c4.1.1 (c2.1.1 hR)) e7)
        refine qd_cVn (ci := 10) (a0 := 291) (qc_at qkX12_readFind 55 rfl) ql_12_268 qfX12_fail (qc_kf hn rfl) rfl c7 rfl rfl (Nat.le_of_ble_eq_true rfl) (qc_rml (by decide) (by decide)) ⟨Nat.zero_le _, Nat.zero_le _⟩ ?_
        exact And.imp_right (fun hx => qc_sub [0] rfl hx) (tX12_readFind_b116 hn (c7.1.1 (c4.1.1 (c2.1.1 hR))) h)
def fX12_readFind_b54 (w : qcW) (I : qTI) (L : qTL) (D : qTD) (R : qTR) : qcO Unit :=
  (qc_bd (fX12_isWord w (qc_u I 291 60 (0 : Int32)) L D R (147182 : Int64)) fun r8 I8 L8 D8 R8 => if r8 = true then (qc_bd (fX12_next w (qc_u I8 291 60 (1 : Int32)) L8 D8 R8) fun r10 I10 L10 D10 R10 => fX12_readFind_b78 w I10 L10 D10 R10) else (fX12_readFind_b78 w I8 L8 D8 R8))
set_option maxRecDepth 100000 in
set_option maxHeartbeats 4000000 in
theorem tX12_readFind_b54 {w : qcW} {I : qTI} {L : qTL} {D : qTD} {R : qTR} {r : Unit} {I' : qTI} {L' : qTL} {D' : qTD} {R' : qTR} (hn : qcNF ≤ w.1) (hR : qc_FR R) (h : fX12_readFind_b54 w I L D R = some (r, I', L', D', R')) : qc_fm qcSM (I, L, D, R) (I', L', D', R') ∧ qc_X (qc_rm (10) 0 0) qmX12_readFind (qc_QM 0 0 (qc_eq none w (I', L', D', R'))) 0 0 w (54, [(0, .ref 291)], [], I, L, D, R) := by
  unfold fX12_readFind_b54 at h
  refine And.imp_right (fun hx => qc_aload_n (qc_at qkX12_readFind 26 rfl) rfl <| qc_iconst (qc_at qkX12_readFind 27 rfl) <| hx) (qd_pI (qc_at qkX12_readFind 28 rfl) hn rfl rfl ?_)
  refine And.imp_right (fun hx => qc_aload_n (qc_at qkX12_readFind 29 rfl) rfl <| qc_ldc2l (qc_at qkX12_readFind 30 rfl) <| hx) ?_
  obtain ⟨r8, I8, L8, D8, R8, e8, h⟩ := qc_bd_of h
  have c8 := (tX12_isWord hn hR e8)
  refine qd_cVv (ci := 10) (a0 := 291) (qc_at qkX12_readFind 31 rfl) ql_12_358 qfX12_isWord (qc_kf hn rfl) rfl c8 rfl rfl (Nat.le_of_ble_eq_true rfl) (qc_rml (by decide) (by decide)) ⟨Nat.zero_le _, Nat.zero_le _⟩ ?_
  refine qc_andB (qc_ifB_eq (qc_at qkX12_readFind 32 rfl)) (fun u9 => ?_) (fun u9 => ?_)
  · replace h := qc_jf u9 h
    exact And.imp_right (fun hx => qc_sub [0] rfl hx) (tX12_readFind_b78 hn (c8.1.1 hR) h)
  · replace h := qc_jt u9 h
    refine And.imp_right (fun hx => qc_aload_n (qc_at qkX12_readFind 33 rfl) rfl <| qc_iconst (qc_at qkX12_readFind 34 rfl) <| hx) (qd_pI (qc_at qkX12_readFind 35 rfl) hn rfl rfl ?_)
    refine And.imp_right (fun hx => qc_aload_n (qc_at qkX12_readFind 36 rfl) rfl <| hx) ?_
    obtain ⟨r10, I10, L10, D10, R10, e10, h⟩ := qc_bd_of h
    have c10 := (tX12_next hn (c8.1.1 hR) e10)
    refine qd_cVn (ci := 10) (a0 := 291) (qc_at qkX12_readFind 37 rfl) ql_12_304 qfX12_next (qc_kf hn rfl) rfl c10 rfl rfl (Nat.le_of_ble_eq_true rfl) (qc_rml (by decide) (by decide)) ⟨Nat.zero_le _, Nat.zero_le _⟩ ?_
    exact And.imp_right (fun hx => qc_sub [0] rfl hx) (tX12_readFind_b78 hn (c10.1.1 (c8.1.1 hR)) h)
def fX12_readFind (w : qcW) (I : qTI) (L : qTL) (D : qTD) (R : qTR) : qcO Unit :=
  (qc_bd (fX12_readWhere w I L D R) fun r11 I11 L11 D11 R11 => qc_bd (fX12_isWord w I11 L11 D11 R11 (16322738 : Int64)) fun r12 I12 L12 D12 R12 => if r12 = true then (qc_bd (fX12_next w I12 L12 D12 R12) fun r14 I14 L14 D14 R14 => qc_bd (fX12_sum w I14 L14 D14 R14) fun r15 I15 L15 D15 R15 => if ((qc_u I15 291 58 r15) 291 15) = 0 then (qc_gd (qc_inb ((qc_u I15 291 58 r15) 291 58) 420) <| if ((qc_u I15 291 58 r15) 303 (Int32.toNatClampNeg ((qc_u I15 291 58 r15) 291 58))) = 0 then (qc_bd (fX12_fail w (qc_u I15 291 58 r15) L15 D15 R15 (4 : Int32) ((qc_u I15 291 58 r15) 291 10)) fun r19 I19 L19 D19 R19 => fX12_readFind_b54 w I19 L19 D19 R19) else (fX12_readFind_b54 w (qc_u I15 291 58 r15) L15 D15 R15)) else (fX12_readFind_b54 w (qc_u I15 291 58 r15) L15 D15 R15)) else (fX12_readFind_b78 w I12 L12 D12 R12))
set_option maxRecDepth 100000 in
set_option maxHeartbeats 4000000 in
theorem tX12_readFind {w : qcW} {I : qTI} {L : qTL} {D : qTD} {R : qTR} {r : Unit} {I' : qTI} {L' : qTL} {D' : qTD} {R' : qTR} (hn : qcNF ≤ w.1) (hR : qc_FR R) (h : fX12_readFind w I L D R = some (r, I', L', D', R')) : qc_fm qcSM (I, L, D, R) (I', L', D', R') ∧ qc_V (10) 0 0 qmX12_readFind [.ref 291] w (I, L, D, R) (qc_eq none w (I', L', D', R')) := by
  unfold fX12_readFind at h
  refine And.imp_right (fun hx => qc_V.of rfl rfl (Nat.le_of_ble_eq_true rfl) (lv := [(0, .ref 291)]) rfl hx) ?_
  refine And.imp_right (fun hx => qc_aload_n (qc_at qkX12_readFind 0 rfl) rfl <| hx) ?_
  obtain ⟨r11, I11, L11, D11, R11, e11, h⟩ := qc_bd_of h
  have c11 := (tX12_readWhere hn hR e11)
  refine qd_cVn (ci := 10) (a0 := 291) (qc_at qkX12_readFind 1 rfl) ql_12_518 qfX12_readWhere (qc_kf hn rfl) rfl c11 rfl rfl (Nat.le_of_ble_eq_true rfl) (qc_rml (by decide) (by decide)) ⟨Nat.zero_le _, Nat.zero_le _⟩ ?_
  refine And.imp_right (fun hx => qc_aload_n (qc_at qkX12_readFind 2 rfl) rfl <| qc_ldc2l (qc_at qkX12_readFind 3 rfl) <| hx) ?_
  obtain ⟨r12, I12, L12, D12, R12, e12, h⟩ := qc_bd_of h
  have c12 := (tX12_isWord hn (c11.1.1 hR) e12)
  refine qd_cVv (ci := 10) (a0 := 291) (qc_at qkX12_readFind 4 rfl) ql_12_358 qfX12_isWord (qc_kf hn rfl) rfl c12 rfl rfl (Nat.le_of_ble_eq_true rfl) (qc_rml (by decide) (by decide)) ⟨Nat.zero_le _, Nat.zero_le _⟩ ?_
  refine qc_andB (qc_ifB_eq (qc_at qkX12_readFind 5 rfl)) (fun u13 => ?_) (fun u13 => ?_)
  · replace h := qc_jf u13 h
    exact And.imp_right (fun hx => qc_sub [0] rfl hx) (tX12_readFind_b78 hn (c12.1.1 (c11.1.1 hR)) h)
  · replace h := qc_jt u13 h
    refine And.imp_right (fun hx => qc_aload_n (qc_at qkX12_readFind 6 rfl) rfl <| hx) ?_
    obtain ⟨r14, I14, L14, D14, R14, e14, h⟩ := qc_bd_of h
    have c14 := (tX12_next hn (c12.1.1 (c11.1.1 hR)) e14)
    refine qd_cVn (ci := 10) (a0 := 291) (qc_at qkX12_readFind 7 rfl) ql_12_304 qfX12_next (qc_kf hn rfl) rfl c14 rfl rfl (Nat.le_of_ble_eq_true rfl) (qc_rml (by decide) (by decide)) ⟨Nat.zero_le _, Nat.zero_le _⟩ ?_
    refine And.imp_right (fun hx => qc_aload_n (qc_at qkX12_readFind 8 rfl) rfl <| qc_aload_n (qc_at qkX12_readFind 9 rfl) rfl <| hx) ?_
    obtain ⟨r15, I15, L15, D15, R15, e15, h⟩ := qc_bd_of h
    have c15 := (tX12_sum hn (c14.1.1 (c12.1.1 (c11.1.1 hR))) e15)
    refine qd_cVv (ci := 10) (a0 := 291) (qc_at qkX12_readFind 10 rfl) ql_12_523 qfX12_sum (qc_kf hn rfl) rfl c15 rfl rfl (Nat.le_of_ble_eq_true rfl) (qc_rml (by decide) (by decide)) ⟨Nat.zero_le _, Nat.zero_le _⟩ ?_
    refine qd_pI (qc_at qkX12_readFind 11 rfl) hn rfl rfl ?_
    refine And.imp_right (fun hx => qc_aload_n (qc_at qkX12_readFind 12 rfl) rfl <| qc_gI (qc_at qkX12_readFind 13 rfl) hn rfl <| hx) ?_
    refine qc_andN (qc_if_ne (qc_at qkX12_readFind 14 rfl)) (fun u16 => ?_) (fun u16 => ?_)
    · replace h := qc_jn u16 h
      exact And.imp_right (fun hx => qc_sub [0] rfl hx) (tX12_readFind_b54 hn (c15.1.1 (c14.1.1 (c12.1.1 (c11.1.1 hR)))) h)
    · replace h := qc_jp u16 h
      refine And.imp_right (fun hx => qc_aload_n (qc_at qkX12_readFind 15 rfl) rfl <| qc_gR (qc_at qkX12_readFind 16 rfl) hn rfl (qfr_291_23 (c15.1.1 (c14.1.1 (c12.1.1 (c11.1.1 hR))))) rfl <| qc_aload_n (qc_at qkX12_readFind 17 rfl) rfl <| qc_gI (qc_at qkX12_readFind 18 rfl) hn rfl <| hx) ?_
      obtain ⟨g17, h⟩ := qc_gd_of h
      refine And.imp_right (fun hx => qc_iald 420 (qc_at qkX12_readFind 19 rfl) hn rfl (qc_inb_in g17) <| hx) ?_
      refine qc_andN (qc_if_ne (qc_at qkX12_readFind 20 rfl)) (fun u18 => ?_) (fun u18 => ?_)
      · replace h := qc_jn u18 h
        exact And.imp_right (fun hx => qc_sub [0] rfl hx) (tX12_readFind_b54 hn (c15.1.1 (c14.1.1 (c12.1.1 (c11.1.1 hR)))) h)
      · replace h := qc_jp u18 h
        refine And.imp_right (fun hx => qc_aload_n (qc_at qkX12_readFind 21 rfl) rfl <| qc_iconst (qc_at qkX12_readFind 22 rfl) <| qc_aload_n (qc_at qkX12_readFind 23 rfl) rfl <| qc_gI (qc_at qkX12_readFind 24 rfl) hn rfl <| hx) ?_
        obtain ⟨r19, I19, L19, D19, R19, e19, h⟩ := qc_bd_of h
        have c19 := (tX12_fail hn (c15.1.1 (c14.1.1 (c12.1.1 (c11.1.1 hR)))) e19)
        refine qd_cVn (ci := 10) (a0 := 291) (qc_at qkX12_readFind 25 rfl) ql_12_268 qfX12_fail (qc_kf hn rfl) rfl c19 rfl rfl (Nat.le_of_ble_eq_true rfl) (qc_rml (by decide) (by decide)) ⟨Nat.zero_le _, Nat.zero_le _⟩ ?_
        exact And.imp_right (fun hx => qc_sub [0] rfl hx) (tX12_readFind_b54 hn (c19.1.1 (c15.1.1 (c14.1.1 (c12.1.1 (c11.1.1 hR))))) h)
def fX12_readFold_b157 (w : qcW) (I : qTI) (L : qTL) (D : qTD) (R : qTR) : qcO Unit :=
  (qc_bd (fX12_isWord w I L D R (89 : Int64)) fun r1 I1 L1 D1 R1 => if r1 = true then (qc_bd (fX12_next w I1 L1 D1 R1) fun r3 I3 L3 D3 R3 => qc_bd (fX12_sum w I3 L3 D3 R3) fun r4 I4 L4 D4 R4 => if ((qc_u I4 291 59 r4) 291 15) = 0 then (qc_gd (qc_inb ((qc_u I4 291 59 r4) 291 59) 420) <| qc_bd (fX12_isWhole w (qc_u I4 291 59 r4) L4 D4 R4 ((qc_u I4 291 59 r4) 303 (Int32.toNatClampNeg ((qc_u I4 291 59 r4) 291 59)))) fun r7 I7 L7 D7 R7 => if r7 = true then (some ((), I7, L7, D7, R7)) else (qc_bd (fX12_fail w I7 L7 D7 R7 (4 : Int32) (I7 291 10)) fun r9 I9 L9 D9 R9 => some ((), I9, L9, D9, R9))) else (some ((), (qc_u I4 291 59 r4), L4, D4, R4))) else (some ((), I1, L1, D1, R1)))
set_option maxRecDepth 100000 in
set_option maxHeartbeats 4000000 in
theorem tX12_readFold_b157 {w : qcW} {I : qTI} {L : qTL} {D : qTD} {R : qTR} {r : Unit} {I' : qTI} {L' : qTL} {D' : qTD} {R' : qTR} (hn : qcNF ≤ w.1) (hR : qc_FR R) (h : fX12_readFold_b157 w I L D R = some (r, I', L', D', R')) : qc_fm qcSM (I, L, D, R) (I', L', D', R') ∧ qc_X (qc_rm (10) 0 0) qmX12_readFold (qc_QM 0 0 (qc_eq none w (I', L', D', R'))) 0 0 w (157, [(0, .ref 291)], [], I, L, D, R) := by
  unfold fX12_readFold_b157 at h
  refine And.imp_right (fun hx => qc_aload_n (qc_at qkX12_readFold 73 rfl) rfl <| qc_ldc2l (qc_at qkX12_readFold 74 rfl) <| hx) ?_
  obtain ⟨r1, I1, L1, D1, R1, e1, h⟩ := qc_bd_of h
  have c1 := (tX12_isWord hn hR e1)
  refine qd_cVv (ci := 10) (a0 := 291) (qc_at qkX12_readFold 75 rfl) ql_12_358 qfX12_isWord (qc_kf hn rfl) rfl c1 rfl rfl (Nat.le_of_ble_eq_true rfl) (qc_rml (by decide) (by decide)) ⟨Nat.zero_le _, Nat.zero_le _⟩ ?_
  refine qc_andB (qc_ifB_eq (qc_at qkX12_readFold 76 rfl)) (fun u2 => ?_) (fun u2 => ?_)
  · replace h := qc_jf u2 h
    obtain ⟨rfl, rfl, rfl, rfl, rfl⟩ := qc_some5 h
    exact ⟨qc_fm.rf _, qc_vret (qc_at qkX12_readFold 98 rfl) rfl (Nat.le_refl _) (Nat.le_refl _) (qc_eq.rf _ _ _)⟩
  · replace h := qc_jt u2 h
    refine And.imp_right (fun hx => qc_aload_n (qc_at qkX12_readFold 77 rfl) rfl <| hx) ?_
    obtain ⟨r3, I3, L3, D3, R3, e3, h⟩ := qc_bd_of h
    have c3 := (tX12_next hn (c1.1.1 hR) e3)
    refine qd_cVn (ci := 10) (a0 := 291) (qc_at qkX12_readFold 78 rfl) ql_12_304 qfX12_next (qc_kf hn rfl) rfl c3 rfl rfl (Nat.le_of_ble_eq_true rfl) (qc_rml (by decide) (by decide)) ⟨Nat.zero_le _, Nat.zero_le _⟩ ?_
    refine And.imp_right (fun hx => qc_aload_n (qc_at qkX12_readFold 79 rfl) rfl <| qc_aload_n (qc_at qkX12_readFold 80 rfl) rfl <| hx) ?_
    obtain ⟨r4, I4, L4, D4, R4, e4, h⟩ := qc_bd_of h
    have c4 := (tX12_sum hn (c3.1.1 (c1.1.1 hR)) e4)
    refine qd_cVv (ci := 10) (a0 := 291) (qc_at qkX12_readFold 81 rfl) ql_12_523 qfX12_sum (qc_kf hn rfl) rfl c4 rfl rfl (Nat.le_of_ble_eq_true rfl) (qc_rml (by decide) (by decide)) ⟨Nat.zero_le _, Nat.zero_le _⟩ ?_
    refine qd_pI (qc_at qkX12_readFold 82 rfl) hn rfl rfl ?_
    refine And.imp_right (fun hx => qc_aload_n (qc_at qkX12_readFold 83 rfl) rfl <| qc_gI (qc_at qkX12_readFold 84 rfl) hn rfl <| hx) ?_
    refine qc_andN (qc_if_ne (qc_at qkX12_readFold 85 rfl)) (fun u5 => ?_) (fun u5 => ?_)
    · replace h := qc_jn u5 h
      obtain ⟨rfl, rfl, rfl, rfl, rfl⟩ := qc_some5 h
      exact ⟨qc_fm.rf _, qc_vret (qc_at qkX12_readFold 98 rfl) rfl (Nat.le_refl _) (Nat.le_refl _) (qc_eq.rf _ _ _)⟩
    · replace h := qc_jp u5 h
      refine And.imp_right (fun hx => qc_aload_n (qc_at qkX12_readFold 86 rfl) rfl <| qc_gR (qc_at qkX12_readFold 87 rfl) hn rfl (qfr_291_23 (c4.1.1 (c3.1.1 (c1.1.1 hR)))) rfl <| qc_aload_n (qc_at qkX12_readFold 88 rfl) rfl <| qc_gI (qc_at qkX12_readFold 89 rfl) hn rfl <| hx) ?_
      obtain ⟨g6, h⟩ := qc_gd_of h
      refine And.imp_right (fun hx => qc_iald 420 (qc_at qkX12_readFold 90 rfl) hn rfl (qc_inb_in g6) <| hx) ?_
      obtain ⟨r7, I7, L7, D7, R7, e7, h⟩ := qc_bd_of h
      have c7 := (tX12_isWhole hn (c4.1.1 (c3.1.1 (c1.1.1 hR))) e7)
      refine qd_cSv (qc_at qkX12_readFold 91 rfl) ql_12_336 qfX12_isWhole c7 rfl rfl (Nat.le_of_ble_eq_true rfl) (qc_rml (by decide) (by decide)) ⟨Nat.zero_le _, Nat.zero_le _⟩ ?_
      refine qc_andBn (qc_ifB_ne (qc_at qkX12_readFold 92 rfl)) (fun u8 => ?_) (fun u8 => ?_)
      · replace h := qc_jt u8 h
        obtain ⟨rfl, rfl, rfl, rfl, rfl⟩ := qc_some5 h
        exact ⟨qc_fm.rf _, qc_vret (qc_at qkX12_readFold 98 rfl) rfl (Nat.le_refl _) (Nat.le_refl _) (qc_eq.rf _ _ _)⟩
      · replace h := qc_jf u8 h
        refine And.imp_right (fun hx => qc_aload_n (qc_at qkX12_readFold 93 rfl) rfl <| qc_iconst (qc_at qkX12_readFold 94 rfl) <| qc_aload_n (qc_at qkX12_readFold 95 rfl) rfl <| qc_gI (qc_at qkX12_readFold 96 rfl) hn rfl <| hx) ?_
        obtain ⟨r9, I9, L9, D9, R9, e9, h⟩ := qc_bd_of h
        have c9 := (tX12_fail hn (c7.1.1 (c4.1.1 (c3.1.1 (c1.1.1 hR)))) e9)
        refine qd_cVn (ci := 10) (a0 := 291) (qc_at qkX12_readFold 97 rfl) ql_12_268 qfX12_fail (qc_kf hn rfl) rfl c9 rfl rfl (Nat.le_of_ble_eq_true rfl) (qc_rml (by decide) (by decide)) ⟨Nat.zero_le _, Nat.zero_le _⟩ ?_
        obtain ⟨rfl, rfl, rfl, rfl, rfl⟩ := qc_some5 h
        exact ⟨qc_fm.rf _, qc_vret (qc_at qkX12_readFold 98 rfl) rfl (Nat.le_refl _) (Nat.le_refl _) (qc_eq.rf _ _ _)⟩
def fX12_readFold_b139 (w : qcW) (I : qTI) (L : qTL) (D : qTD) (R : qTR) : qcO Unit :=
  (qc_bd (fX12_isWord w I L D R (24385093 : Int64)) fun r10 I10 L10 D10 R10 => if r10 = true then (qc_bd (fX12_next w I10 L10 D10 R10) fun r12 I12 L12 D12 R12 => qc_bd (fX12_readWhere w I12 L12 D12 R12) fun r13 I13 L13 D13 R13 => fX12_readFold_b157 w I13 L13 D13 R13) else (fX12_readFold_b157 w I10 L10 D10 R10))
set_option maxRecDepth 100000 in
set_option maxHeartbeats 4000000 in
theorem tX12_readFold_b139 {w : qcW} {I : qTI} {L : qTL} {D : qTD} {R : qTR} {r : Unit} {I' : qTI} {L' : qTL} {D' : qTD} {R' : qTR} (hn : qcNF ≤ w.1) (hR : qc_FR R) (h : fX12_readFold_b139 w I L D R = some (r, I', L', D', R')) : qc_fm qcSM (I, L, D, R) (I', L', D', R') ∧ qc_X (qc_rm (10) 0 0) qmX12_readFold (qc_QM 0 0 (qc_eq none w (I', L', D', R'))) 0 0 w (139, [(0, .ref 291)], [], I, L, D, R) := by
  unfold fX12_readFold_b139 at h
  refine And.imp_right (fun hx => qc_aload_n (qc_at qkX12_readFold 65 rfl) rfl <| qc_ldc2l (qc_at qkX12_readFold 66 rfl) <| hx) ?_
  obtain ⟨r10, I10, L10, D10, R10, e10, h⟩ := qc_bd_of h
  have c10 := (tX12_isWord hn hR e10)
  refine qd_cVv (ci := 10) (a0 := 291) (qc_at qkX12_readFold 67 rfl) ql_12_358 qfX12_isWord (qc_kf hn rfl) rfl c10 rfl rfl (Nat.le_of_ble_eq_true rfl) (qc_rml (by decide) (by decide)) ⟨Nat.zero_le _, Nat.zero_le _⟩ ?_
  refine qc_andB (qc_ifB_eq (qc_at qkX12_readFold 68 rfl)) (fun u11 => ?_) (fun u11 => ?_)
  · replace h := qc_jf u11 h
    exact And.imp_right (fun hx => qc_sub [0] rfl hx) (tX12_readFold_b157 hn (c10.1.1 hR) h)
  · replace h := qc_jt u11 h
    refine And.imp_right (fun hx => qc_aload_n (qc_at qkX12_readFold 69 rfl) rfl <| hx) ?_
    obtain ⟨r12, I12, L12, D12, R12, e12, h⟩ := qc_bd_of h
    have c12 := (tX12_next hn (c10.1.1 hR) e12)
    refine qd_cVn (ci := 10) (a0 := 291) (qc_at qkX12_readFold 70 rfl) ql_12_304 qfX12_next (qc_kf hn rfl) rfl c12 rfl rfl (Nat.le_of_ble_eq_true rfl) (qc_rml (by decide) (by decide)) ⟨Nat.zero_le _, Nat.zero_le _⟩ ?_
    refine And.imp_right (fun hx => qc_aload_n (qc_at qkX12_readFold 71 rfl) rfl <| hx) ?_
    obtain ⟨r13, I13, L13, D13, R13, e13, h⟩ := qc_bd_of h
    have c13 := (tX12_readWhere hn (c12.1.1 (c10.1.1 hR)) e13)
    refine qd_cVn (ci := 10) (a0 := 291) (qc_at qkX12_readFold 72 rfl) ql_12_518 qfX12_readWhere (qc_kf hn rfl) rfl c13 rfl rfl (Nat.le_of_ble_eq_true rfl) (qc_rml (by decide) (by decide)) ⟨Nat.zero_le _, Nat.zero_le _⟩ ?_
    exact And.imp_right (fun hx => qc_sub [0] rfl hx) (tX12_readFold_b157 hn (c13.1.1 (c12.1.1 (c10.1.1 hR))) h)
def fX12_readFold_b92 (w : qcW) (I : qTI) (L : qTL) (D : qTD) (R : qTR) : qcO Unit :=
  (qc_bd (fX12_next w I L D R) fun r14 I14 L14 D14 R14 => if (I14 291 62) = 0 then (fX12_readFold_b139 w I14 L14 D14 R14) else (qc_bd (fX12_sum w I14 L14 D14 R14) fun r16 I16 L16 D16 R16 => if ((qc_u I16 291 58 r16) 291 15) = 0 then (qc_gd (qc_inb ((qc_u I16 291 58 r16) 291 58) 420) <| if ((qc_u I16 291 58 r16) 303 (Int32.toNatClampNeg ((qc_u I16 291 58 r16) 291 58))) = 0 then (qc_bd (fX12_fail w (qc_u I16 291 58 r16) L16 D16 R16 (4 : Int32) ((qc_u I16 291 58 r16) 291 10)) fun r20 I20 L20 D20 R20 => fX12_readFold_b139 w I20 L20 D20 R20) else (fX12_readFold_b139 w (qc_u I16 291 58 r16) L16 D16 R16)) else (fX12_readFold_b139 w (qc_u I16 291 58 r16) L16 D16 R16)))
set_option maxRecDepth 100000 in
set_option maxHeartbeats 4000000 in
theorem tX12_readFold_b92 {w : qcW} {I : qTI} {L : qTL} {D : qTD} {R : qTR} {r : Unit} {I' : qTI} {L' : qTL} {D' : qTD} {R' : qTR} (hn : qcNF ≤ w.1) (hR : qc_FR R) (h : fX12_readFold_b92 w I L D R = some (r, I', L', D', R')) : qc_fm qcSM (I, L, D, R) (I', L', D', R') ∧ qc_X (qc_rm (10) 0 0) qmX12_readFold (qc_QM 0 0 (qc_eq none w (I', L', D', R'))) 0 0 w (92, [(0, .ref 291)], [], I, L, D, R) := by
  unfold fX12_readFold_b92 at h
  refine And.imp_right (fun hx => qc_aload_n (qc_at qkX12_readFold 42 rfl) rfl <| hx) ?_
  obtain ⟨r14, I14, L14, D14, R14, e14, h⟩ := qc_bd_of h
  have c14 := (tX12_next hn hR e14)
  refine qd_cVn (ci := 10) (a0 := 291) (qc_at qkX12_readFold 43 rfl) ql_12_304 qfX12_next (qc_kf hn rfl) rfl c14 rfl rfl (Nat.le_of_ble_eq_true rfl) (qc_rml (by decide) (by decide)) ⟨Nat.zero_le _, Nat.zero_le _⟩ ?_
  refine And.imp_right (fun hx => qc_aload_n (qc_at qkX12_readFold 44 rfl) rfl <| qc_gI (qc_at qkX12_readFold 45 rfl) hn rfl <| hx) ?_
  refine qc_andC (qc_if_eq (qc_at qkX12_readFold 46 rfl)) (fun u15 => ?_) (fun u15 => ?_)
  · replace h := qc_jp u15 h
    exact And.imp_right (fun hx => qc_sub [0] rfl hx) (tX12_readFold_b139 hn (c14.1.1 hR) h)
  · replace h := qc_jn u15 h
    refine And.imp_right (fun hx => qc_aload_n (qc_at qkX12_readFold 47 rfl) rfl <| qc_aload_n (qc_at qkX12_readFold 48 rfl) rfl <| hx) ?_
    obtain ⟨r16, I16, L16, D16, R16, e16, h⟩ := qc_bd_of h
    have c16 := (tX12_sum hn (c14.1.1 hR) e16)
    refine qd_cVv (ci := 10) (a0 := 291) (qc_at qkX12_readFold 49 rfl) ql_12_523 qfX12_sum (qc_kf hn rfl) rfl c16 rfl rfl (Nat.le_of_ble_eq_true rfl) (qc_rml (by decide) (by decide)) ⟨Nat.zero_le _, Nat.zero_le _⟩ ?_
    refine qd_pI (qc_at qkX12_readFold 50 rfl) hn rfl rfl ?_
    refine And.imp_right (fun hx => qc_aload_n (qc_at qkX12_readFold 51 rfl) rfl <| qc_gI (qc_at qkX12_readFold 52 rfl) hn rfl <| hx) ?_
    refine qc_andN (qc_if_ne (qc_at qkX12_readFold 53 rfl)) (fun u17 => ?_) (fun u17 => ?_)
    · replace h := qc_jn u17 h
      exact And.imp_right (fun hx => qc_sub [0] rfl hx) (tX12_readFold_b139 hn (c16.1.1 (c14.1.1 hR)) h)
    · replace h := qc_jp u17 h
      refine And.imp_right (fun hx => qc_aload_n (qc_at qkX12_readFold 54 rfl) rfl <| qc_gR (qc_at qkX12_readFold 55 rfl) hn rfl (qfr_291_23 (c16.1.1 (c14.1.1 hR))) rfl <| qc_aload_n (qc_at qkX12_readFold 56 rfl) rfl <| qc_gI (qc_at qkX12_readFold 57 rfl) hn rfl <| hx) ?_
      obtain ⟨g18, h⟩ := qc_gd_of h
      refine And.imp_right (fun hx => qc_iald 420 (qc_at qkX12_readFold 58 rfl) hn rfl (qc_inb_in g18) <| hx) ?_
      refine qc_andN (qc_if_ne (qc_at qkX12_readFold 59 rfl)) (fun u19 => ?_) (fun u19 => ?_)
      · replace h := qc_jn u19 h
        exact And.imp_right (fun hx => qc_sub [0] rfl hx) (tX12_readFold_b139 hn (c16.1.1 (c14.1.1 hR)) h)
      · replace h := qc_jp u19 h
        refine And.imp_right (fun hx => qc_aload_n (qc_at qkX12_readFold 60 rfl) rfl <| qc_iconst (qc_at qkX12_readFold 61 rfl) <| qc_aload_n (qc_at qkX12_readFold 62 rfl) rfl <| qc_gI (qc_at qkX12_readFold 63 rfl) hn rfl <| hx) ?_
        obtain ⟨r20, I20, L20, D20, R20, e20, h⟩ := qc_bd_of h
        have c20 := (tX12_fail hn (c16.1.1 (c14.1.1 hR)) e20)
        refine qd_cVn (ci := 10) (a0 := 291) (qc_at qkX12_readFold 64 rfl) ql_12_268 qfX12_fail (qc_kf hn rfl) rfl c20 rfl rfl (Nat.le_of_ble_eq_true rfl) (qc_rml (by decide) (by decide)) ⟨Nat.zero_le _, Nat.zero_le _⟩ ?_
        exact And.imp_right (fun hx => qc_sub [0] rfl hx) (tX12_readFold_b139 hn (c20.1.1 (c16.1.1 (c14.1.1 hR))) h)
def fX12_readFold_b72 (w : qcW) (I : qTI) (L : qTL) (D : qTD) (R : qTR) (s0 : Int32) : qcO Unit :=
  (if ((qc_u I 291 62 s0) 291 62) = (-1 : Int32) then (qc_bd (fX12_fail w (qc_u I 291 62 s0) L D R (2 : Int32) ((qc_u I 291 62 s0) 291 10)) fun r22 I22 L22 D22 R22 => fX12_readFold_b92 w I22 L22 D22 R22) else (fX12_readFold_b92 w (qc_u I 291 62 s0) L D R))
set_option maxRecDepth 100000 in
set_option maxHeartbeats 4000000 in
theorem tX12_readFold_b72 {w : qcW} {I : qTI} {L : qTL} {D : qTD} {R : qTR} {s0 : Int32} {r : Unit} {I' : qTI} {L' : qTL} {D' : qTD} {R' : qTR} (hn : qcNF ≤ w.1) (hR : qc_FR R) (h : fX12_readFold_b72 w I L D R s0 = some (r, I', L', D', R')) : qc_fm qcSM (I, L, D, R) (I', L', D', R') ∧ qc_X (qc_rm (10) 0 0) qmX12_readFold (qc_QM 0 0 (qc_eq none w (I', L', D', R'))) 0 0 w (72, [(0, .ref 291)], [.int s0, .ref 291], I, L, D, R) := by
  unfold fX12_readFold_b72 at h
  refine qd_pI (qc_at qkX12_readFold 32 rfl) hn rfl rfl ?_
  refine And.imp_right (fun hx => qc_aload_n (qc_at qkX12_readFold 33 rfl) rfl <| qc_gI (qc_at qkX12_readFold 34 rfl) hn rfl <| qc_iconst (qc_at qkX12_readFold 35 rfl) <| hx) ?_
  refine qc_andN (qc_icmp_ne (qc_at qkX12_readFold 36 rfl)) (fun u21 => ?_) (fun u21 => ?_)
  · replace h := qc_jn u21 h
    exact And.imp_right (fun hx => qc_sub [0] rfl hx) (tX12_readFold_b92 hn hR h)
  · replace h := qc_jp u21 h
    refine And.imp_right (fun hx => qc_aload_n (qc_at qkX12_readFold 37 rfl) rfl <| qc_iconst (qc_at qkX12_readFold 38 rfl) <| qc_aload_n (qc_at qkX12_readFold 39 rfl) rfl <| qc_gI (qc_at qkX12_readFold 40 rfl) hn rfl <| hx) ?_
    obtain ⟨r22, I22, L22, D22, R22, e22, h⟩ := qc_bd_of h
    have c22 := (tX12_fail hn hR e22)
    refine qd_cVn (ci := 10) (a0 := 291) (qc_at qkX12_readFold 41 rfl) ql_12_268 qfX12_fail (qc_kf hn rfl) rfl c22 rfl rfl (Nat.le_of_ble_eq_true rfl) (qc_rml (by decide) (by decide)) ⟨Nat.zero_le _, Nat.zero_le _⟩ ?_
    exact And.imp_right (fun hx => qc_sub [0] rfl hx) (tX12_readFold_b92 hn (c22.1.1 hR) h)
def fX12_readFold (w : qcW) (I : qTI) (L : qTL) (D : qTD) (R : qTR) : qcO Unit :=
  (qc_bd (fX12_isWord w I L D R (3659220 : Int64)) fun r23 I23 L23 D23 R23 => if r23 = true then (fX12_readFold_b72 w I23 L23 D23 R23 (0 : Int32)) else (qc_bd (fX12_isWord w I23 L23 D23 R23 (20141 : Int64)) fun r25 I25 L25 D25 R25 => if r25 = true then (fX12_readFold_b72 w I25 L25 D25 R25 (1 : Int32)) else (qc_bd (fX12_isWord w I25 L25 D25 R25 (13614 : Int64)) fun r27 I27 L27 D27 R27 => if r27 = true then (fX12_readFold_b72 w I27 L27 D27 R27 (2 : Int32)) else (qc_bd (fX12_isWord w I27 L27 D27 R27 (13368 : Int64)) fun r29 I29 L29 D29 R29 => if r29 = true then (fX12_readFold_b72 w I29 L29 D29 R29 (3 : Int32)) else (qc_bd (fX12_isWord w I29 L29 D29 R29 (431150 : Int64)) fun r31 I31 L31 D31 R31 => if r31 = true then (fX12_readFold_b72 w I31 L31 D31 R31 (4 : Int32)) else (fX12_readFold_b72 w I31 L31 D31 R31 (-1 : Int32)))))))
set_option maxRecDepth 100000 in
set_option maxHeartbeats 4000000 in
theorem tX12_readFold {w : qcW} {I : qTI} {L : qTL} {D : qTD} {R : qTR} {r : Unit} {I' : qTI} {L' : qTL} {D' : qTD} {R' : qTR} (hn : qcNF ≤ w.1) (hR : qc_FR R) (h : fX12_readFold w I L D R = some (r, I', L', D', R')) : qc_fm qcSM (I, L, D, R) (I', L', D', R') ∧ qc_V (10) 0 0 qmX12_readFold [.ref 291] w (I, L, D, R) (qc_eq none w (I', L', D', R')) := by
  unfold fX12_readFold at h
  refine And.imp_right (fun hx => qc_V.of rfl rfl (Nat.le_of_ble_eq_true rfl) (lv := [(0, .ref 291)]) rfl hx) ?_
  refine And.imp_right (fun hx => qc_aload_n (qc_at qkX12_readFold 0 rfl) rfl <| qc_aload_n (qc_at qkX12_readFold 1 rfl) rfl <| qc_ldc2l (qc_at qkX12_readFold 2 rfl) <| hx) ?_
  obtain ⟨r23, I23, L23, D23, R23, e23, h⟩ := qc_bd_of h
  have c23 := (tX12_isWord hn hR e23)
  refine qd_cVv (ci := 10) (a0 := 291) (qc_at qkX12_readFold 3 rfl) ql_12_358 qfX12_isWord (qc_kf hn rfl) rfl c23 rfl rfl (Nat.le_of_ble_eq_true rfl) (qc_rml (by decide) (by decide)) ⟨Nat.zero_le _, Nat.zero_le _⟩ ?_
  refine qc_andB (qc_ifB_eq (qc_at qkX12_readFold 4 rfl)) (fun u24 => ?_) (fun u24 => ?_)
  · replace h := qc_jf u24 h
    refine And.imp_right (fun hx => qc_aload_n (qc_at qkX12_readFold 7 rfl) rfl <| qc_ldc2l (qc_at qkX12_readFold 8 rfl) <| hx) ?_
    obtain ⟨r25, I25, L25, D25, R25, e25, h⟩ := qc_bd_of h
    have c25 := (tX12_isWord hn (c23.1.1 hR) e25)
    refine qd_cVv (ci := 10) (a0 := 291) (qc_at qkX12_readFold 9 rfl) ql_12_358 qfX12_isWord (qc_kf hn rfl) rfl c25 rfl rfl (Nat.le_of_ble_eq_true rfl) (qc_rml (by decide) (by decide)) ⟨Nat.zero_le _, Nat.zero_le _⟩ ?_
    refine qc_andB (qc_ifB_eq (qc_at qkX12_readFold 10 rfl)) (fun u26 => ?_) (fun u26 => ?_)
    · replace h := qc_jf u26 h
      refine And.imp_right (fun hx => qc_aload_n (qc_at qkX12_readFold 13 rfl) rfl <| qc_ldc2l (qc_at qkX12_readFold 14 rfl) <| hx) ?_
      obtain ⟨r27, I27, L27, D27, R27, e27, h⟩ := qc_bd_of h
      have c27 := (tX12_isWord hn (c25.1.1 (c23.1.1 hR)) e27)
      refine qd_cVv (ci := 10) (a0 := 291) (qc_at qkX12_readFold 15 rfl) ql_12_358 qfX12_isWord (qc_kf hn rfl) rfl c27 rfl rfl (Nat.le_of_ble_eq_true rfl) (qc_rml (by decide) (by decide)) ⟨Nat.zero_le _, Nat.zero_le _⟩ ?_
      refine qc_andB (qc_ifB_eq (qc_at qkX12_readFold 16 rfl)) (fun u28 => ?_) (fun u28 => ?_)
      · replace h := qc_jf u28 h
        refine And.imp_right (fun hx => qc_aload_n (qc_at qkX12_readFold 19 rfl) rfl <| qc_ldc2l (qc_at qkX12_readFold 20 rfl) <| hx) ?_
        obtain ⟨r29, I29, L29, D29, R29, e29, h⟩ := qc_bd_of h
        have c29 := (tX12_isWord hn (c27.1.1 (c25.1.1 (c23.1.1 hR))) e29)
        refine qd_cVv (ci := 10) (a0 := 291) (qc_at qkX12_readFold 21 rfl) ql_12_358 qfX12_isWord (qc_kf hn rfl) rfl c29 rfl rfl (Nat.le_of_ble_eq_true rfl) (qc_rml (by decide) (by decide)) ⟨Nat.zero_le _, Nat.zero_le _⟩ ?_
        refine qc_andB (qc_ifB_eq (qc_at qkX12_readFold 22 rfl)) (fun u30 => ?_) (fun u30 => ?_)
        · replace h := qc_jf u30 h
          refine And.imp_right (fun hx => qc_aload_n (qc_at qkX12_readFold 25 rfl) rfl <| qc_ldc2l (qc_at qkX12_readFold 26 rfl) <| hx) ?_
          obtain ⟨r31, I31, L31, D31, R31, e31, h⟩ := qc_bd_of h
          have c31 := (tX12_isWord hn (c29.1.1 (c27.1.1 (c25.1.1 (c23.1.1 hR)))) e31)
          refine qd_cVv (ci := 10) (a0 := 291) (qc_at qkX12_readFold 27 rfl) ql_12_358 qfX12_isWord (qc_kf hn rfl) rfl c31 rfl rfl (Nat.le_of_ble_eq_true rfl) (qc_rml (by decide) (by decide)) ⟨Nat.zero_le _, Nat.zero_le _⟩ ?_
          refine qc_andB (qc_ifB_eq (qc_at qkX12_readFold 28 rfl)) (fun u32 => ?_) (fun u32 => ?_)
          · replace h := qc_jf u32 h
            exact And.imp_right (fun hx => qc_iconst (qc_at qkX12_readFold 31 rfl) <| qc_sub [0] rfl hx) (tX12_readFold_b72 hn (c31.1.1 (c29.1.1 (c27.1.1 (c25.1.1 (c23.1.1 hR))))) h)
          · replace h := qc_jt u32 h
            exact And.imp_right (fun hx => qc_iconst (qc_at qkX12_readFold 29 rfl) <| qc_goto (qc_at qkX12_readFold 30 rfl) <| qc_sub [0] rfl hx) (tX12_readFold_b72 hn (c31.1.1 (c29.1.1 (c27.1.1 (c25.1.1 (c23.1.1 hR))))) h)
        · replace h := qc_jt u30 h
          exact And.imp_right (fun hx => qc_iconst (qc_at qkX12_readFold 23 rfl) <| qc_goto (qc_at qkX12_readFold 24 rfl) <| qc_sub [0] rfl hx) (tX12_readFold_b72 hn (c29.1.1 (c27.1.1 (c25.1.1 (c23.1.1 hR)))) h)
      · replace h := qc_jt u28 h
        exact And.imp_right (fun hx => qc_iconst (qc_at qkX12_readFold 17 rfl) <| qc_goto (qc_at qkX12_readFold 18 rfl) <| qc_sub [0] rfl hx) (tX12_readFold_b72 hn (c27.1.1 (c25.1.1 (c23.1.1 hR))) h)
    · replace h := qc_jt u26 h
      exact And.imp_right (fun hx => qc_iconst (qc_at qkX12_readFold 11 rfl) <| qc_goto (qc_at qkX12_readFold 12 rfl) <| qc_sub [0] rfl hx) (tX12_readFold_b72 hn (c25.1.1 (c23.1.1 hR)) h)
  · replace h := qc_jt u24 h
    exact And.imp_right (fun hx => qc_iconst (qc_at qkX12_readFold 5 rfl) <| qc_goto (qc_at qkX12_readFold 6 rfl) <| qc_sub [0] rfl hx) (tX12_readFold_b72 hn (c23.1.1 hR) h)
def fX12_readSet_b133 (w : qcW) (I : qTI) (L : qTL) (D : qTD) (R : qTR) : qcO Unit :=
  (qc_bd (fX12_isWord w I L D R (24385093 : Int64)) fun r1 I1 L1 D1 R1 => if r1 = true then (qc_bd (fX12_next w I1 L1 D1 R1) fun r3 I3 L3 D3 R3 => qc_bd (fX12_readWhere w I3 L3 D3 R3) fun r4 I4 L4 D4 R4 => some ((), I4, L4, D4, R4)) else (some ((), I1, L1, D1, R1)))
set_option maxRecDepth 100000 in
set_option maxHeartbeats 4000000 in
theorem tX12_readSet_b133 {w : qcW} {I : qTI} {L : qTL} {D : qTD} {R : qTR} {r : Unit} {I' : qTI} {L' : qTL} {D' : qTD} {R' : qTR} (hn : qcNF ≤ w.1) (hR : qc_FR R) (h : fX12_readSet_b133 w I L D R = some (r, I', L', D', R')) : qc_fm qcSM (I, L, D, R) (I', L', D', R') ∧ qc_X (qc_rm (10) 0 0) qmX12_readSet (qc_QM 0 0 (qc_eq none w (I', L', D', R'))) 0 0 w (133, [(0, .ref 291)], [], I, L, D, R) := by
  unfold fX12_readSet_b133 at h
  refine And.imp_right (fun hx => qc_aload_n (qc_at qkX12_readSet 69 rfl) rfl <| qc_ldc2l (qc_at qkX12_readSet 70 rfl) <| hx) ?_
  obtain ⟨r1, I1, L1, D1, R1, e1, h⟩ := qc_bd_of h
  have c1 := (tX12_isWord hn hR e1)
  refine qd_cVv (ci := 10) (a0 := 291) (qc_at qkX12_readSet 71 rfl) ql_12_358 qfX12_isWord (qc_kf hn rfl) rfl c1 rfl rfl (Nat.le_of_ble_eq_true rfl) (qc_rml (by decide) (by decide)) ⟨Nat.zero_le _, Nat.zero_le _⟩ ?_
  refine qc_andB (qc_ifB_eq (qc_at qkX12_readSet 72 rfl)) (fun u2 => ?_) (fun u2 => ?_)
  · replace h := qc_jf u2 h
    obtain ⟨rfl, rfl, rfl, rfl, rfl⟩ := qc_some5 h
    exact ⟨qc_fm.rf _, qc_vret (qc_at qkX12_readSet 77 rfl) rfl (Nat.le_refl _) (Nat.le_refl _) (qc_eq.rf _ _ _)⟩
  · replace h := qc_jt u2 h
    refine And.imp_right (fun hx => qc_aload_n (qc_at qkX12_readSet 73 rfl) rfl <| hx) ?_
    obtain ⟨r3, I3, L3, D3, R3, e3, h⟩ := qc_bd_of h
    have c3 := (tX12_next hn (c1.1.1 hR) e3)
    refine qd_cVn (ci := 10) (a0 := 291) (qc_at qkX12_readSet 74 rfl) ql_12_304 qfX12_next (qc_kf hn rfl) rfl c3 rfl rfl (Nat.le_of_ble_eq_true rfl) (qc_rml (by decide) (by decide)) ⟨Nat.zero_le _, Nat.zero_le _⟩ ?_
    refine And.imp_right (fun hx => qc_aload_n (qc_at qkX12_readSet 75 rfl) rfl <| hx) ?_
    obtain ⟨r4, I4, L4, D4, R4, e4, h⟩ := qc_bd_of h
    have c4 := (tX12_readWhere hn (c3.1.1 (c1.1.1 hR)) e4)
    refine qd_cVn (ci := 10) (a0 := 291) (qc_at qkX12_readSet 76 rfl) ql_12_518 qfX12_readWhere (qc_kf hn rfl) rfl c4 rfl rfl (Nat.le_of_ble_eq_true rfl) (qc_rml (by decide) (by decide)) ⟨Nat.zero_le _, Nat.zero_le _⟩ ?_
    obtain ⟨rfl, rfl, rfl, rfl, rfl⟩ := qc_some5 h
    exact ⟨qc_fm.rf _, qc_vret (qc_at qkX12_readSet 77 rfl) rfl (Nat.le_refl _) (Nat.le_refl _) (qc_eq.rf _ _ _)⟩
def fX12_readSet_b124 (w : qcW) (I : qTI) (L : qTL) (D : qTD) (R : qTR) (x1 : Int32) (s0 : Int32) (s1 : Int32) : qcO Unit :=
  (if s1 = s0 then (fX12_readSet_b133 w I L D R) else (qc_bd (fX12_fail w I L D R (4 : Int32) x1) fun r6 I6 L6 D6 R6 => fX12_readSet_b133 w I6 L6 D6 R6))
set_option maxRecDepth 100000 in
set_option maxHeartbeats 4000000 in
theorem tX12_readSet_b124 {w : qcW} {I : qTI} {L : qTL} {D : qTD} {R : qTR} {x1 : Int32} {s0 : Int32} {s1 : Int32} {r : Unit} {I' : qTI} {L' : qTL} {D' : qTD} {R' : qTR} (hn : qcNF ≤ w.1) (hR : qc_FR R) (h : fX12_readSet_b124 w I L D R x1 s0 s1 = some (r, I', L', D', R')) : qc_fm qcSM (I, L, D, R) (I', L', D', R') ∧ qc_X (qc_rm (10) 0 0) qmX12_readSet (qc_QM 0 0 (qc_eq none w (I', L', D', R'))) 0 0 w (124, [(0, .ref 291), (1, .int x1)], [.int s0, .int s1], I, L, D, R) := by
  unfold fX12_readSet_b124 at h
  refine qc_andC (qc_icmp_eq (qc_at qkX12_readSet 64 rfl)) (fun u5 => ?_) (fun u5 => ?_)
  · replace h := qc_jp u5 h
    exact And.imp_right (fun hx => qc_sub [0] rfl hx) (tX12_readSet_b133 hn hR h)
  · replace h := qc_jn u5 h
    refine And.imp_right (fun hx => qc_aload_n (qc_at qkX12_readSet 65 rfl) rfl <| qc_iconst (qc_at qkX12_readSet 66 rfl) <| qc_iload_n (qc_at qkX12_readSet 67 rfl) rfl <| hx) ?_
    obtain ⟨r6, I6, L6, D6, R6, e6, h⟩ := qc_bd_of h
    have c6 := (tX12_fail hn hR e6)
    refine qd_cVn (ci := 10) (a0 := 291) (qc_at qkX12_readSet 68 rfl) ql_12_268 qfX12_fail (qc_kf hn rfl) rfl c6 rfl rfl (Nat.le_of_ble_eq_true rfl) (qc_rml (by decide) (by decide)) ⟨Nat.zero_le _, Nat.zero_le _⟩ ?_
    exact And.imp_right (fun hx => qc_sub [0] rfl hx) (tX12_readSet_b133 hn (c6.1.1 hR) h)
def fX12_readSet_b107 (w : qcW) (I : qTI) (L : qTL) (D : qTD) (R : qTR) (x1 : Int32) (s0 : Int32) : qcO Unit :=
  (qc_gd (qc_inb (I 291 58) 420) <| if (I 303 (Int32.toNatClampNeg (I 291 58))) = 0 then (fX12_readSet_b124 w I L D R x1 (1 : Int32) s0) else (fX12_readSet_b124 w I L D R x1 (0 : Int32) s0))
set_option maxRecDepth 100000 in
set_option maxHeartbeats 4000000 in
theorem tX12_readSet_b107 {w : qcW} {I : qTI} {L : qTL} {D : qTD} {R : qTR} {x1 : Int32} {s0 : Int32} {r : Unit} {I' : qTI} {L' : qTL} {D' : qTD} {R' : qTR} (hn : qcNF ≤ w.1) (hR : qc_FR R) (h : fX12_readSet_b107 w I L D R x1 s0 = some (r, I', L', D', R')) : qc_fm qcSM (I, L, D, R) (I', L', D', R') ∧ qc_X (qc_rm (10) 0 0) qmX12_readSet (qc_QM 0 0 (qc_eq none w (I', L', D', R'))) 0 0 w (107, [(0, .ref 291), (1, .int x1)], [.int s0], I, L, D, R) := by
  unfold fX12_readSet_b107 at h
  refine And.imp_right (fun hx => qc_aload_n (qc_at qkX12_readSet 55 rfl) rfl <| qc_gR (qc_at qkX12_readSet 56 rfl) hn rfl (qfr_291_23 hR) rfl <| qc_aload_n (qc_at qkX12_readSet 57 rfl) rfl <| qc_gI (qc_at qkX12_readSet 58 rfl) hn rfl <| hx) ?_
  obtain ⟨g7, h⟩ := qc_gd_of h
  refine And.imp_right (fun hx => qc_iald 420 (qc_at qkX12_readSet 59 rfl) hn rfl (qc_inb_in g7) <| hx) ?_
  refine qc_andN (qc_if_ne (qc_at qkX12_readSet 60 rfl)) (fun u8 => ?_) (fun u8 => ?_)
  · replace h := qc_jn u8 h
    exact And.imp_right (fun hx => qc_iconst (qc_at qkX12_readSet 63 rfl) <| qc_sub [0, 1] rfl hx) (tX12_readSet_b124 hn hR h)
  · replace h := qc_jp u8 h
    exact And.imp_right (fun hx => qc_iconst (qc_at qkX12_readSet 61 rfl) <| qc_goto (qc_at qkX12_readSet 62 rfl) <| qc_sub [0, 1] rfl hx) (tX12_readSet_b124 hn hR h)
def fX12_readSet_b66 (w : qcW) (I : qTI) (L : qTL) (D : qTD) (R : qTR) (x1 : Int32) : qcO Unit :=
  (qc_bd (fX12_next w I L D R) fun r9 I9 L9 D9 R9 => qc_bd (fX12_sum w I9 L9 D9 R9) fun r10 I10 L10 D10 R10 => if ((qc_u I10 291 58 r10) 291 15) = 0 then (qc_gd (qc_inb ((qc_u I10 291 58 r10) 291 63) 10) <| qc_gd (qc_inb ((qc_u I10 291 58 r10) 292 (Int32.toNatClampNeg ((qc_u I10 291 58 r10) 291 63))) 11) <| if ((qc_u I10 291 58 r10) 293 (Int32.toNatClampNeg ((qc_u I10 291 58 r10) 292 (Int32.toNatClampNeg ((qc_u I10 291 58 r10) 291 63))))) = 0 then (fX12_readSet_b107 w (qc_u I10 291 58 r10) L10 D10 R10 x1 (1 : Int32)) else (fX12_readSet_b107 w (qc_u I10 291 58 r10) L10 D10 R10 x1 (0 : Int32))) else (fX12_readSet_b133 w (qc_u I10 291 58 r10) L10 D10 R10))
set_option maxRecDepth 100000 in
set_option maxHeartbeats 4000000 in
theorem tX12_readSet_b66 {w : qcW} {I : qTI} {L : qTL} {D : qTD} {R : qTR} {x1 : Int32} {r : Unit} {I' : qTI} {L' : qTL} {D' : qTD} {R' : qTR} (hn : qcNF ≤ w.1) (hR : qc_FR R) (h : fX12_readSet_b66 w I L D R x1 = some (r, I', L', D', R')) : qc_fm qcSM (I, L, D, R) (I', L', D', R') ∧ qc_X (qc_rm (10) 0 0) qmX12_readSet (qc_QM 0 0 (qc_eq none w (I', L', D', R'))) 0 0 w (66, [(0, .ref 291), (1, .int x1)], [], I, L, D, R) := by
  unfold fX12_readSet_b66 at h
  refine And.imp_right (fun hx => qc_aload_n (qc_at qkX12_readSet 34 rfl) rfl <| hx) ?_
  obtain ⟨r9, I9, L9, D9, R9, e9, h⟩ := qc_bd_of h
  have c9 := (tX12_next hn hR e9)
  refine qd_cVn (ci := 10) (a0 := 291) (qc_at qkX12_readSet 35 rfl) ql_12_304 qfX12_next (qc_kf hn rfl) rfl c9 rfl rfl (Nat.le_of_ble_eq_true rfl) (qc_rml (by decide) (by decide)) ⟨Nat.zero_le _, Nat.zero_le _⟩ ?_
  refine And.imp_right (fun hx => qc_aload_n (qc_at qkX12_readSet 36 rfl) rfl <| qc_aload_n (qc_at qkX12_readSet 37 rfl) rfl <| hx) ?_
  obtain ⟨r10, I10, L10, D10, R10, e10, h⟩ := qc_bd_of h
  have c10 := (tX12_sum hn (c9.1.1 hR) e10)
  refine qd_cVv (ci := 10) (a0 := 291) (qc_at qkX12_readSet 38 rfl) ql_12_523 qfX12_sum (qc_kf hn rfl) rfl c10 rfl rfl (Nat.le_of_ble_eq_true rfl) (qc_rml (by decide) (by decide)) ⟨Nat.zero_le _, Nat.zero_le _⟩ ?_
  refine qd_pI (qc_at qkX12_readSet 39 rfl) hn rfl rfl ?_
  refine And.imp_right (fun hx => qc_aload_n (qc_at qkX12_readSet 40 rfl) rfl <| qc_gI (qc_at qkX12_readSet 41 rfl) hn rfl <| hx) ?_
  refine qc_andN (qc_if_ne (qc_at qkX12_readSet 42 rfl)) (fun u11 => ?_) (fun u11 => ?_)
  · replace h := qc_jn u11 h
    exact And.imp_right (fun hx => qc_sub [0] rfl hx) (tX12_readSet_b133 hn (c10.1.1 (c9.1.1 hR)) h)
  · replace h := qc_jp u11 h
    refine And.imp_right (fun hx => qc_aload_n (qc_at qkX12_readSet 43 rfl) rfl <| qc_gR (qc_at qkX12_readSet 44 rfl) hn rfl (qfr_291_2 (c10.1.1 (c9.1.1 hR))) rfl <| qc_aload_n (qc_at qkX12_readSet 45 rfl) rfl <| qc_gR (qc_at qkX12_readSet 46 rfl) hn rfl (qfr_291_1 (c10.1.1 (c9.1.1 hR))) rfl <| qc_aload_n (qc_at qkX12_readSet 47 rfl) rfl <| qc_gI (qc_at qkX12_readSet 48 rfl) hn rfl <| hx) ?_
    obtain ⟨g12, h⟩ := qc_gd_of h
    refine And.imp_right (fun hx => qc_iald 10 (qc_at qkX12_readSet 49 rfl) hn rfl (qc_inb_in g12) <| hx) ?_
    obtain ⟨g13, h⟩ := qc_gd_of h
    refine And.imp_right (fun hx => qc_iald 11 (qc_at qkX12_readSet 50 rfl) hn rfl (qc_inb_in g13) <| hx) ?_
    refine qc_andN (qc_if_ne (qc_at qkX12_readSet 51 rfl)) (fun u14 => ?_) (fun u14 => ?_)
    · replace h := qc_jn u14 h
      exact And.imp_right (fun hx => qc_iconst (qc_at qkX12_readSet 54 rfl) <| qc_sub [0, 1] rfl hx) (tX12_readSet_b107 hn (c10.1.1 (c9.1.1 hR)) h)
    · replace h := qc_jp u14 h
      exact And.imp_right (fun hx => qc_iconst (qc_at qkX12_readSet 52 rfl) <| qc_goto (qc_at qkX12_readSet 53 rfl) <| qc_sub [0, 1] rfl hx) (tX12_readSet_b107 hn (c10.1.1 (c9.1.1 hR)) h)
def fX12_readSet_b24 (w : qcW) (I : qTI) (L : qTL) (D : qTD) (R : qTR) : qcO Unit :=
  (if (I 291 15) ≤ 0 then (qc_bd (fX12_column_ w I L D R) fun r16 I16 L16 D16 R16 => qc_bd (fX12_isSign w (qc_u I16 291 63 r16) L16 D16 R16 (58 : Int32) (61 : Int32) (0 : Int32)) fun r17 I17 L17 D17 R17 => if r17 = true then (fX12_readSet_b66 w I17 L17 D17 R17 ((qc_u I16 291 63 r16) 291 10)) else (qc_bd (fX12_fail w I17 L17 D17 R17 (2 : Int32) (I17 291 10)) fun r19 I19 L19 D19 R19 => fX12_readSet_b66 w I19 L19 D19 R19 ((qc_u I16 291 63 r16) 291 10))) else (some ((), I, L, D, R)))
set_option maxRecDepth 100000 in
set_option maxHeartbeats 4000000 in
theorem tX12_readSet_b24 {w : qcW} {I : qTI} {L : qTL} {D : qTD} {R : qTR} {r : Unit} {I' : qTI} {L' : qTL} {D' : qTD} {R' : qTR} (hn : qcNF ≤ w.1) (hR : qc_FR R) (h : fX12_readSet_b24 w I L D R = some (r, I', L', D', R')) : qc_fm qcSM (I, L, D, R) (I', L', D', R') ∧ qc_X (qc_rm (10) 0 0) qmX12_readSet (qc_QM 0 0 (qc_eq none w (I', L', D', R'))) 0 0 w (24, [(0, .ref 291)], [], I, L, D, R) := by
  unfold fX12_readSet_b24 at h
  refine And.imp_right (fun hx => qc_aload_n (qc_at qkX12_readSet 12 rfl) rfl <| qc_gI (qc_at qkX12_readSet 13 rfl) hn rfl <| hx) ?_
  refine qc_andC (qc_if_le (qc_at qkX12_readSet 14 rfl)) (fun u15 => ?_) (fun u15 => ?_)
  · replace h := qc_jp u15 h
    refine And.imp_right (fun hx => qc_aload_n (qc_at qkX12_readSet 16 rfl) rfl <| qc_aload_n (qc_at qkX12_readSet 17 rfl) rfl <| hx) ?_
    obtain ⟨r16, I16, L16, D16, R16, e16, h⟩ := qc_bd_of h
    have c16 := (tX12_column_ hn hR e16)
    refine qd_cVv (ci := 10) (a0 := 291) (qc_at qkX12_readSet 18 rfl) ql_12_423 qfX12_column_ (qc_kf hn rfl) rfl c16 rfl rfl (Nat.le_of_ble_eq_true rfl) (qc_rml (by decide) (by decide)) ⟨Nat.zero_le _, Nat.zero_le _⟩ ?_
    refine qd_pI (qc_at qkX12_readSet 19 rfl) hn rfl rfl ?_
    refine And.imp_right (fun hx => qc_aload_n (qc_at qkX12_readSet 20 rfl) rfl <| qc_gI (qc_at qkX12_readSet 21 rfl) hn rfl <| qc_istore_n (lv' := [(1, _), (0, _)]) (qc_at qkX12_readSet 22 rfl) rfl rfl <| qc_aload_n (qc_at qkX12_readSet 23 rfl) rfl <| qc_bipush (qc_at qkX12_readSet 24 rfl) <| qc_bipush (qc_at qkX12_readSet 25 rfl) <| qc_iconst (qc_at qkX12_readSet 26 rfl) <| hx) ?_
    obtain ⟨r17, I17, L17, D17, R17, e17, h⟩ := qc_bd_of h
    have c17 := (tX12_isSign hn (c16.1.1 hR) e17)
    refine qd_cVv (ci := 10) (a0 := 291) (qc_at qkX12_readSet 27 rfl) ql_12_297 qfX12_isSign (qc_kf hn rfl) rfl c17 rfl rfl (Nat.le_of_ble_eq_true rfl) (qc_rml (by decide) (by decide)) ⟨Nat.zero_le _, Nat.zero_le _⟩ ?_
    refine qc_andBn (qc_ifB_ne (qc_at qkX12_readSet 28 rfl)) (fun u18 => ?_) (fun u18 => ?_)
    · replace h := qc_jt u18 h
      exact And.imp_right (fun hx => qc_sub [1, 0] rfl hx) (tX12_readSet_b66 hn (c17.1.1 (c16.1.1 hR)) h)
    · replace h := qc_jf u18 h
      refine And.imp_right (fun hx => qc_aload_n (qc_at qkX12_readSet 29 rfl) rfl <| qc_iconst (qc_at qkX12_readSet 30 rfl) <| qc_aload_n (qc_at qkX12_readSet 31 rfl) rfl <| qc_gI (qc_at qkX12_readSet 32 rfl) hn rfl <| hx) ?_
      obtain ⟨r19, I19, L19, D19, R19, e19, h⟩ := qc_bd_of h
      have c19 := (tX12_fail hn (c17.1.1 (c16.1.1 hR)) e19)
      refine qd_cVn (ci := 10) (a0 := 291) (qc_at qkX12_readSet 33 rfl) ql_12_268 qfX12_fail (qc_kf hn rfl) rfl c19 rfl rfl (Nat.le_of_ble_eq_true rfl) (qc_rml (by decide) (by decide)) ⟨Nat.zero_le _, Nat.zero_le _⟩ ?_
      exact And.imp_right (fun hx => qc_sub [1, 0] rfl hx) (tX12_readSet_b66 hn (c19.1.1 (c17.1.1 (c16.1.1 hR))) h)
  · replace h := qc_jn u15 h
    obtain ⟨rfl, rfl, rfl, rfl, rfl⟩ := qc_some5 h
    exact ⟨qc_fm.rf _, qc_vret (qc_at qkX12_readSet 15 rfl) rfl (Nat.le_refl _) (Nat.le_refl _) (qc_eq.rf _ _ _)⟩
def fX12_readSet (w : qcW) (I : qTI) (L : qTL) (D : qTD) (R : qTR) : qcO Unit :=
  (if (I 291 15) = 0 then (if (I 291 9) = (4 : Int32) then (fX12_readSet_b24 w I L D R) else (qc_bd (fX12_fail w I L D R (2 : Int32) (I 291 10)) fun r22 I22 L22 D22 R22 => fX12_readSet_b24 w I22 L22 D22 R22)) else (fX12_readSet_b24 w I L D R))
set_option maxRecDepth 100000 in
set_option maxHeartbeats 4000000 in
theorem tX12_readSet {w : qcW} {I : qTI} {L : qTL} {D : qTD} {R : qTR} {r : Unit} {I' : qTI} {L' : qTL} {D' : qTD} {R' : qTR} (hn : qcNF ≤ w.1) (hR : qc_FR R) (h : fX12_readSet w I L D R = some (r, I', L', D', R')) : qc_fm qcSM (I, L, D, R) (I', L', D', R') ∧ qc_V (10) 0 0 qmX12_readSet [.ref 291] w (I, L, D, R) (qc_eq none w (I', L', D', R')) := by
  unfold fX12_readSet at h
  refine And.imp_right (fun hx => qc_V.of rfl rfl (Nat.le_of_ble_eq_true rfl) (lv := [(0, .ref 291)]) rfl hx) ?_
  refine And.imp_right (fun hx => qc_aload_n (qc_at qkX12_readSet 0 rfl) rfl <| qc_gI (qc_at qkX12_readSet 1 rfl) hn rfl <| hx) ?_
  refine qc_andN (qc_if_ne (qc_at qkX12_readSet 2 rfl)) (fun u20 => ?_) (fun u20 => ?_)
  · replace h := qc_jn u20 h
    exact And.imp_right (fun hx => qc_sub [0] rfl hx) (tX12_readSet_b24 hn hR h)
  · replace h := qc_jp u20 h
    refine And.imp_right (fun hx => qc_aload_n (qc_at qkX12_readSet 3 rfl) rfl <| qc_gI (qc_at qkX12_readSet 4 rfl) hn rfl <| qc_iconst (qc_at qkX12_readSet 5 rfl) <| hx) ?_
    refine qc_andC (qc_icmp_eq (qc_at qkX12_readSet 6 rfl)) (fun u21 => ?_) (fun u21 => ?_)
    · replace h := qc_jp u21 h
      exact And.imp_right (fun hx => qc_sub [0] rfl hx) (tX12_readSet_b24 hn hR h)
    · replace h := qc_jn u21 h
      refine And.imp_right (fun hx => qc_aload_n (qc_at qkX12_readSet 7 rfl) rfl <| qc_iconst (qc_at qkX12_readSet 8 rfl) <| qc_aload_n (qc_at qkX12_readSet 9 rfl) rfl <| qc_gI (qc_at qkX12_readSet 10 rfl) hn rfl <| hx) ?_
      obtain ⟨r22, I22, L22, D22, R22, e22, h⟩ := qc_bd_of h
      have c22 := (tX12_fail hn hR e22)
      refine qd_cVn (ci := 10) (a0 := 291) (qc_at qkX12_readSet 11 rfl) ql_12_268 qfX12_fail (qc_kf hn rfl) rfl c22 rfl rfl (Nat.le_of_ble_eq_true rfl) (qc_rml (by decide) (by decide)) ⟨Nat.zero_le _, Nat.zero_le _⟩ ?_
      exact And.imp_right (fun hx => qc_sub [0] rfl hx) (tX12_readSet_b24 hn (c22.1.1 hR) h)
def fX12_read_b98 (w : qcW) (I : qTI) (L : qTL) (D : qTD) (R : qTR) (x1 : Int32) : qcO Int32 :=
  (if (I 291 15) = 0 then (if (I 291 9) = 0 then (some (x1, I, L, D, R)) else (qc_bd (fX12_fail w I L D R (2 : Int32) (I 291 10)) fun r3 I3 L3 D3 R3 => some (x1, I3, L3, D3, R3))) else (some (x1, I, L, D, R)))
set_option maxRecDepth 100000 in
set_option maxHeartbeats 4000000 in
theorem tX12_read_b98 {w : qcW} {I : qTI} {L : qTL} {D : qTD} {R : qTR} {x1 : Int32} {r : Int32} {I' : qTI} {L' : qTL} {D' : qTD} {R' : qTR} (hn : qcNF ≤ w.1) (hR : qc_FR R) (h : fX12_read_b98 w I L D R x1 = some (r, I', L', D', R')) : qc_fm qcSM (I, L, D, R) (I', L', D', R') ∧ qc_X (qc_rm (11) 0 0) qmX12_read (qc_QM 0 0 (qc_eq (some (.int r)) w (I', L', D', R'))) 0 0 w (98, [(0, .ref 291), (1, .int x1)], [], I, L, D, R) := by
  unfold fX12_read_b98 at h
  refine And.imp_right (fun hx => qc_aload_n (qc_at qkX12_read 48 rfl) rfl <| qc_gI (qc_at qkX12_read 49 rfl) hn rfl <| hx) ?_
  refine qc_andN (qc_if_ne (qc_at qkX12_read 50 rfl)) (fun u1 => ?_) (fun u1 => ?_)
  · replace h := qc_jn u1 h
    obtain ⟨rfl, rfl, rfl, rfl, rfl⟩ := qc_some5 h
    exact ⟨qc_fm.rf _, qc_iload_n (qc_at qkX12_read 59 rfl) rfl <| qc_iret (qc_at qkX12_read 60 rfl) rfl (Nat.le_refl _) (Nat.le_refl _) (qc_eq.rf _ _ _)⟩
  · replace h := qc_jp u1 h
    refine And.imp_right (fun hx => qc_aload_n (qc_at qkX12_read 51 rfl) rfl <| qc_gI (qc_at qkX12_read 52 rfl) hn rfl <| hx) ?_
    refine qc_andC (qc_if_eq (qc_at qkX12_read 53 rfl)) (fun u2 => ?_) (fun u2 => ?_)
    · replace h := qc_jp u2 h
      obtain ⟨rfl, rfl, rfl, rfl, rfl⟩ := qc_some5 h
      exact ⟨qc_fm.rf _, qc_iload_n (qc_at qkX12_read 59 rfl) rfl <| qc_iret (qc_at qkX12_read 60 rfl) rfl (Nat.le_refl _) (Nat.le_refl _) (qc_eq.rf _ _ _)⟩
    · replace h := qc_jn u2 h
      refine And.imp_right (fun hx => qc_aload_n (qc_at qkX12_read 54 rfl) rfl <| qc_iconst (qc_at qkX12_read 55 rfl) <| qc_aload_n (qc_at qkX12_read 56 rfl) rfl <| qc_gI (qc_at qkX12_read 57 rfl) hn rfl <| hx) ?_
      obtain ⟨r3, I3, L3, D3, R3, e3, h⟩ := qc_bd_of h
      have c3 := (tX12_fail hn hR e3)
      refine qd_cVn (ci := 10) (a0 := 291) (qc_at qkX12_read 58 rfl) ql_12_268 qfX12_fail (qc_kf hn rfl) rfl c3 rfl rfl (Nat.le_of_ble_eq_true rfl) (qc_rml (by decide) (by decide)) ⟨Nat.zero_le _, Nat.zero_le _⟩ ?_
      obtain ⟨rfl, rfl, rfl, rfl, rfl⟩ := qc_some5 h
      exact ⟨qc_fm.rf _, qc_iload_n (qc_at qkX12_read 59 rfl) rfl <| qc_iret (qc_at qkX12_read 60 rfl) rfl (Nat.le_refl _) (Nat.le_refl _) (qc_eq.rf _ _ _)⟩
def fX12_read_b58 (w : qcW) (I : qTI) (L : qTL) (D : qTD) (R : qTR) (x1 : Int32) : qcO Int32 :=
  (qc_bd (fX12_next w I L D R) fun r4 I4 L4 D4 R4 => if (I4 291 15) ≤ 0 then (if x1 = 0 then (qc_bd (fX12_readFind w I4 L4 D4 R4) fun r10 I10 L10 D10 R10 => fX12_read_b98 w I10 L10 D10 R10 x1) else (if x1 = (1 : Int32) then (qc_bd (fX12_readFold w I4 L4 D4 R4) fun r9 I9 L9 D9 R9 => fX12_read_b98 w I9 L9 D9 R9 x1) else (qc_bd (fX12_readSet w I4 L4 D4 R4) fun r8 I8 L8 D8 R8 => fX12_read_b98 w I8 L8 D8 R8 x1))) else (some (x1, I4, L4, D4, R4)))
set_option maxRecDepth 100000 in
set_option maxHeartbeats 4000000 in
theorem tX12_read_b58 {w : qcW} {I : qTI} {L : qTL} {D : qTD} {R : qTR} {x1 : Int32} {r : Int32} {I' : qTI} {L' : qTL} {D' : qTD} {R' : qTR} (hn : qcNF ≤ w.1) (hR : qc_FR R) (h : fX12_read_b58 w I L D R x1 = some (r, I', L', D', R')) : qc_fm qcSM (I, L, D, R) (I', L', D', R') ∧ qc_X (qc_rm (11) 0 0) qmX12_read (qc_QM 0 0 (qc_eq (some (.int r)) w (I', L', D', R'))) 0 0 w (58, [(0, .ref 291), (1, .int x1)], [], I, L, D, R) := by
  unfold fX12_read_b58 at h
  refine And.imp_right (fun hx => qc_aload_n (qc_at qkX12_read 28 rfl) rfl <| hx) ?_
  obtain ⟨r4, I4, L4, D4, R4, e4, h⟩ := qc_bd_of h
  have c4 := (tX12_next hn hR e4)
  refine qd_cVn (ci := 10) (a0 := 291) (qc_at qkX12_read 29 rfl) ql_12_304 qfX12_next (qc_kf hn rfl) rfl c4 rfl rfl (Nat.le_of_ble_eq_true rfl) (qc_rml (by decide) (by decide)) ⟨Nat.zero_le _, Nat.zero_le _⟩ ?_
  refine And.imp_right (fun hx => qc_aload_n (qc_at qkX12_read 30 rfl) rfl <| qc_gI (qc_at qkX12_read 31 rfl) hn rfl <| hx) ?_
  refine qc_andC (qc_if_le (qc_at qkX12_read 32 rfl)) (fun u5 => ?_) (fun u5 => ?_)
  · replace h := qc_jp u5 h
    refine And.imp_right (fun hx => qc_iload_n (qc_at qkX12_read 35 rfl) rfl <| hx) ?_
    refine qc_andN (qc_if_ne (qc_at qkX12_read 36 rfl)) (fun u6 => ?_) (fun u6 => ?_)
    · replace h := qc_jn u6 h
      refine And.imp_right (fun hx => qc_iload_n (qc_at qkX12_read 40 rfl) rfl <| qc_iconst (qc_at qkX12_read 41 rfl) <| hx) ?_
      refine qc_andN (qc_icmp_ne (qc_at qkX12_read 42 rfl)) (fun u7 => ?_) (fun u7 => ?_)
      · replace h := qc_jn u7 h
        refine And.imp_right (fun hx => qc_aload_n (qc_at qkX12_read 46 rfl) rfl <| hx) ?_
        obtain ⟨r8, I8, L8, D8, R8, e8, h⟩ := qc_bd_of h
        have c8 := (tX12_readSet hn (c4.1.1 hR) e8)
        refine qd_cVn (ci := 10) (a0 := 291) (qc_at qkX12_read 47 rfl) ql_12_570 qfX12_readSet (qc_kf hn rfl) rfl c8 rfl rfl (Nat.le_of_ble_eq_true rfl) (qc_rml (by decide) (by decide)) ⟨Nat.zero_le _, Nat.zero_le _⟩ ?_
        exact And.imp_right (fun hx => qc_sub [0, 1] rfl hx) (tX12_read_b98 hn (c8.1.1 (c4.1.1 hR)) h)
      · replace h := qc_jp u7 h
        refine And.imp_right (fun hx => qc_aload_n (qc_at qkX12_read 43 rfl) rfl <| hx) ?_
        obtain ⟨r9, I9, L9, D9, R9, e9, h⟩ := qc_bd_of h
        have c9 := (tX12_readFold hn (c4.1.1 hR) e9)
        refine qd_cVn (ci := 10) (a0 := 291) (qc_at qkX12_read 44 rfl) ql_12_567 qfX12_readFold (qc_kf hn rfl) rfl c9 rfl rfl (Nat.le_of_ble_eq_true rfl) (qc_rml (by decide) (by decide)) ⟨Nat.zero_le _, Nat.zero_le _⟩ ?_
        exact And.imp_right (fun hx => qc_goto (qc_at qkX12_read 45 rfl) <| qc_sub [0, 1] rfl hx) (tX12_read_b98 hn (c9.1.1 (c4.1.1 hR)) h)
    · replace h := qc_jp u6 h
      refine And.imp_right (fun hx => qc_aload_n (qc_at qkX12_read 37 rfl) rfl <| hx) ?_
      obtain ⟨r10, I10, L10, D10, R10, e10, h⟩ := qc_bd_of h
      have c10 := (tX12_readFind hn (c4.1.1 hR) e10)
      refine qd_cVn (ci := 10) (a0 := 291) (qc_at qkX12_read 38 rfl) ql_12_564 qfX12_readFind (qc_kf hn rfl) rfl c10 rfl rfl (Nat.le_of_ble_eq_true rfl) (qc_rml (by decide) (by decide)) ⟨Nat.zero_le _, Nat.zero_le _⟩ ?_
      exact And.imp_right (fun hx => qc_goto (qc_at qkX12_read 39 rfl) <| qc_sub [0, 1] rfl hx) (tX12_read_b98 hn (c10.1.1 (c4.1.1 hR)) h)
  · replace h := qc_jn u5 h
    obtain ⟨rfl, rfl, rfl, rfl, rfl⟩ := qc_some5 h
    exact ⟨qc_fm.rf _, qc_iload_n (qc_at qkX12_read 33 rfl) rfl <| qc_iret (qc_at qkX12_read 34 rfl) rfl (Nat.le_refl _) (Nat.le_refl _) (qc_eq.rf _ _ _)⟩
def fX12_read_b43 (w : qcW) (I : qTI) (L : qTL) (D : qTD) (R : qTR) (s0 : Int32) : qcO Int32 :=
  (if s0 = (-1 : Int32) then (qc_bd (fX12_fail w I L D R (2 : Int32) (I 291 10)) fun r12 I12 L12 D12 R12 => fX12_read_b58 w I12 L12 D12 R12 s0) else (fX12_read_b58 w I L D R s0))
set_option maxRecDepth 100000 in
set_option maxHeartbeats 4000000 in
theorem tX12_read_b43 {w : qcW} {I : qTI} {L : qTL} {D : qTD} {R : qTR} {s0 : Int32} {r : Int32} {I' : qTI} {L' : qTL} {D' : qTD} {R' : qTR} (hn : qcNF ≤ w.1) (hR : qc_FR R) (h : fX12_read_b43 w I L D R s0 = some (r, I', L', D', R')) : qc_fm qcSM (I, L, D, R) (I', L', D', R') ∧ qc_X (qc_rm (11) 0 0) qmX12_read (qc_QM 0 0 (qc_eq (some (.int r)) w (I', L', D', R'))) 0 0 w (43, [(0, .ref 291)], [.int s0], I, L, D, R) := by
  unfold fX12_read_b43 at h
  refine And.imp_right (fun hx => qc_istore_n (lv' := [(1, _), (0, _)]) (qc_at qkX12_read 19 rfl) rfl rfl <| qc_iload_n (qc_at qkX12_read 20 rfl) rfl <| qc_iconst (qc_at qkX12_read 21 rfl) <| hx) ?_
  refine qc_andN (qc_icmp_ne (qc_at qkX12_read 22 rfl)) (fun u11 => ?_) (fun u11 => ?_)
  · replace h := qc_jn u11 h
    exact And.imp_right (fun hx => qc_sub [1, 0] rfl hx) (tX12_read_b58 hn hR h)
  · replace h := qc_jp u11 h
    refine And.imp_right (fun hx => qc_aload_n (qc_at qkX12_read 23 rfl) rfl <| qc_iconst (qc_at qkX12_read 24 rfl) <| qc_aload_n (qc_at qkX12_read 25 rfl) rfl <| qc_gI (qc_at qkX12_read 26 rfl) hn rfl <| hx) ?_
    obtain ⟨r12, I12, L12, D12, R12, e12, h⟩ := qc_bd_of h
    have c12 := (tX12_fail hn hR e12)
    refine qd_cVn (ci := 10) (a0 := 291) (qc_at qkX12_read 27 rfl) ql_12_268 qfX12_fail (qc_kf hn rfl) rfl c12 rfl rfl (Nat.le_of_ble_eq_true rfl) (qc_rml (by decide) (by decide)) ⟨Nat.zero_le _, Nat.zero_le _⟩ ?_
    exact And.imp_right (fun hx => qc_sub [1, 0] rfl hx) (tX12_read_b58 hn (c12.1.1 hR) h)
def fX12_read (w : qcW) (I : qTI) (L : qTL) (D : qTD) (R : qTR) : qcO Int32 :=
  (qc_bd (fX12_isWord w I L D R (206276 : Int64)) fun r13 I13 L13 D13 R13 => if r13 = true then (fX12_read_b43 w I13 L13 D13 R13 (0 : Int32)) else (qc_bd (fX12_isWord w I13 L13 D13 R13 (212356 : Int64)) fun r15 I15 L15 D15 R15 => if r15 = true then (fX12_read_b43 w I15 L15 D15 R15 (1 : Int32)) else (qc_bd (fX12_isWord w I15 L15 D15 R15 (19636 : Int64)) fun r17 I17 L17 D17 R17 => if r17 = true then (fX12_read_b43 w I17 L17 D17 R17 (2 : Int32)) else (fX12_read_b43 w I17 L17 D17 R17 (-1 : Int32)))))
set_option maxRecDepth 100000 in
set_option maxHeartbeats 4000000 in
theorem tX12_read {w : qcW} {I : qTI} {L : qTL} {D : qTD} {R : qTR} {r : Int32} {I' : qTI} {L' : qTL} {D' : qTD} {R' : qTR} (hn : qcNF ≤ w.1) (hR : qc_FR R) (h : fX12_read w I L D R = some (r, I', L', D', R')) : qc_fm qcSM (I, L, D, R) (I', L', D', R') ∧ qc_V (11) 0 0 qmX12_read [.ref 291] w (I, L, D, R) (qc_eq (some (.int r)) w (I', L', D', R')) := by
  unfold fX12_read at h
  refine And.imp_right (fun hx => qc_V.of rfl rfl (Nat.le_of_ble_eq_true rfl) (lv := [(0, .ref 291)]) rfl hx) ?_
  refine And.imp_right (fun hx => qc_aload_n (qc_at qkX12_read 0 rfl) rfl <| qc_ldc2l (qc_at qkX12_read 1 rfl) <| hx) ?_
  obtain ⟨r13, I13, L13, D13, R13, e13, h⟩ := qc_bd_of h
  have c13 := (tX12_isWord hn hR e13)
  refine qd_cVv (ci := 10) (a0 := 291) (qc_at qkX12_read 2 rfl) ql_12_358 qfX12_isWord (qc_kf hn rfl) rfl c13 rfl rfl (Nat.le_of_ble_eq_true rfl) (qc_rml (by decide) (by decide)) ⟨Nat.zero_le _, Nat.zero_le _⟩ ?_
  refine qc_andB (qc_ifB_eq (qc_at qkX12_read 3 rfl)) (fun u14 => ?_) (fun u14 => ?_)
  · replace h := qc_jf u14 h
    refine And.imp_right (fun hx => qc_aload_n (qc_at qkX12_read 6 rfl) rfl <| qc_ldc2l (qc_at qkX12_read 7 rfl) <| hx) ?_
    obtain ⟨r15, I15, L15, D15, R15, e15, h⟩ := qc_bd_of h
    have c15 := (tX12_isWord hn (c13.1.1 hR) e15)
    refine qd_cVv (ci := 10) (a0 := 291) (qc_at qkX12_read 8 rfl) ql_12_358 qfX12_isWord (qc_kf hn rfl) rfl c15 rfl rfl (Nat.le_of_ble_eq_true rfl) (qc_rml (by decide) (by decide)) ⟨Nat.zero_le _, Nat.zero_le _⟩ ?_
    refine qc_andB (qc_ifB_eq (qc_at qkX12_read 9 rfl)) (fun u16 => ?_) (fun u16 => ?_)
    · replace h := qc_jf u16 h
      refine And.imp_right (fun hx => qc_aload_n (qc_at qkX12_read 12 rfl) rfl <| qc_ldc2l (qc_at qkX12_read 13 rfl) <| hx) ?_
      obtain ⟨r17, I17, L17, D17, R17, e17, h⟩ := qc_bd_of h
      have c17 := (tX12_isWord hn (c15.1.1 (c13.1.1 hR)) e17)
      refine qd_cVv (ci := 10) (a0 := 291) (qc_at qkX12_read 14 rfl) ql_12_358 qfX12_isWord (qc_kf hn rfl) rfl c17 rfl rfl (Nat.le_of_ble_eq_true rfl) (qc_rml (by decide) (by decide)) ⟨Nat.zero_le _, Nat.zero_le _⟩ ?_
      refine qc_andB (qc_ifB_eq (qc_at qkX12_read 15 rfl)) (fun u18 => ?_) (fun u18 => ?_)
      · replace h := qc_jf u18 h
        exact And.imp_right (fun hx => qc_iconst (qc_at qkX12_read 18 rfl) <| qc_sub [0] rfl hx) (tX12_read_b43 hn (c17.1.1 (c15.1.1 (c13.1.1 hR))) h)
      · replace h := qc_jt u18 h
        exact And.imp_right (fun hx => qc_iconst (qc_at qkX12_read 16 rfl) <| qc_goto (qc_at qkX12_read 17 rfl) <| qc_sub [0] rfl hx) (tX12_read_b43 hn (c17.1.1 (c15.1.1 (c13.1.1 hR))) h)
    · replace h := qc_jt u16 h
      exact And.imp_right (fun hx => qc_iconst (qc_at qkX12_read 10 rfl) <| qc_goto (qc_at qkX12_read 11 rfl) <| qc_sub [0] rfl hx) (tX12_read_b43 hn (c15.1.1 (c13.1.1 hR)) h)
  · replace h := qc_jt u14 h
    exact And.imp_right (fun hx => qc_iconst (qc_at qkX12_read 4 rfl) <| qc_goto (qc_at qkX12_read 5 rfl) <| qc_sub [0] rfl hx) (tX12_read_b43 hn (c13.1.1 hR) h)
def fX12_makes_b305 (w : qcW) (I : qTI) (L : qTL) (D : qTD) (R : qTR) : qcO Unit :=
  (qc_bd (fX12_fail w I L D R (6 : Int32) (I 291 8)) fun r1 I1 L1 D1 R1 => some ((), I1, L1, D1, R1))
set_option maxRecDepth 100000 in
set_option maxHeartbeats 4000000 in
theorem tX12_makes_b305 {w : qcW} {I : qTI} {L : qTL} {D : qTD} {R : qTR} {r : Unit} {I' : qTI} {L' : qTL} {D' : qTD} {R' : qTR} (hn : qcNF ≤ w.1) (hR : qc_FR R) (h : fX12_makes_b305 w I L D R = some (r, I', L', D', R')) : qc_fm qcSM (I, L, D, R) (I', L', D', R') ∧ qc_X (qc_rm (5) 0 0) qmX12_makes (qc_QM 0 0 (qc_eq none w (I', L', D', R'))) 0 0 w (305, [(0, .ref 291)], [], I, L, D, R) := by
  unfold fX12_makes_b305 at h
  refine And.imp_right (fun hx => qc_aload_n (qc_at qkX12_makes 168 rfl) rfl <| qc_bipush (qc_at qkX12_makes 169 rfl) <| qc_aload_n (qc_at qkX12_makes 170 rfl) rfl <| qc_gI (qc_at qkX12_makes 171 rfl) hn rfl <| hx) ?_
  obtain ⟨r1, I1, L1, D1, R1, e1, h⟩ := qc_bd_of h
  have c1 := (tX12_fail hn hR e1)
  refine qd_cVn (ci := 10) (a0 := 291) (qc_at qkX12_makes 172 rfl) ql_12_268 qfX12_fail (qc_kf hn rfl) rfl c1 rfl rfl (Nat.le_of_ble_eq_true rfl) (qc_rml (by decide) (by decide)) ⟨Nat.zero_le _, Nat.zero_le _⟩ ?_
  obtain ⟨rfl, rfl, rfl, rfl, rfl⟩ := qc_some5 h
  exact ⟨qc_fm.rf _, qc_vret (qc_at qkX12_makes 173 rfl) rfl (Nat.le_refl _) (Nat.le_refl _) (qc_eq.rf _ _ _)⟩
def fX12_makes_b292 (w : qcW) (I : qTI) (L : qTL) (D : qTD) (R : qTR) (x2 : Int32) : qcO Unit :=
  (if (I 291 51) = 0 then (if x2 ≤ (24 : Int32) then (some ((), I, L, D, R)) else (fX12_makes_b305 w I L D R)) else (fX12_makes_b305 w I L D R))
set_option maxRecDepth 100000 in
set_option maxHeartbeats 4000000 in
theorem tX12_makes_b292 {w : qcW} {I : qTI} {L : qTL} {D : qTD} {R : qTR} {x2 : Int32} {r : Unit} {I' : qTI} {L' : qTL} {D' : qTD} {R' : qTR} (hn : qcNF ≤ w.1) (hR : qc_FR R) (h : fX12_makes_b292 w I L D R x2 = some (r, I', L', D', R')) : qc_fm qcSM (I, L, D, R) (I', L', D', R') ∧ qc_X (qc_rm (5) 0 0) qmX12_makes (qc_QM 0 0 (qc_eq none w (I', L', D', R'))) 0 0 w (292, [(0, .ref 291), (2, .int x2)], [], I, L, D, R) := by
  unfold fX12_makes_b292 at h
  refine And.imp_right (fun hx => qc_aload_n (qc_at qkX12_makes 162 rfl) rfl <| qc_gI (qc_at qkX12_makes 163 rfl) hn rfl <| hx) ?_
  refine qc_andN (qc_if_ne (qc_at qkX12_makes 164 rfl)) (fun u2 => ?_) (fun u2 => ?_)
  · replace h := qc_jn u2 h
    exact And.imp_right (fun hx => qc_sub [0] rfl hx) (tX12_makes_b305 hn hR h)
  · replace h := qc_jp u2 h
    refine And.imp_right (fun hx => qc_iload_n (qc_at qkX12_makes 165 rfl) rfl <| qc_bipush (qc_at qkX12_makes 166 rfl) <| hx) ?_
    refine qc_andC (qc_icmp_le (qc_at qkX12_makes 167 rfl)) (fun u3 => ?_) (fun u3 => ?_)
    · replace h := qc_jp u3 h
      obtain ⟨rfl, rfl, rfl, rfl, rfl⟩ := qc_some5 h
      exact ⟨qc_fm.rf _, qc_vret (qc_at qkX12_makes 173 rfl) rfl (Nat.le_refl _) (Nat.le_refl _) (qc_eq.rf _ _ _)⟩
    · replace h := qc_jn u3 h
      exact And.imp_right (fun hx => qc_sub [0] rfl hx) (tX12_makes_b305 hn hR h)
def fX12_makes_b257 (w : qcW) (I : qTI) (L : qTL) (D : qTD) (R : qTR) (x2 : Int32) : qcO Unit :=
  (if ((qc_u I 291 50 (2 : Int32)) 291 59) = (-1 : Int32) then (fX12_makes_b292 w (qc_u I 291 50 (2 : Int32)) L D R x2) else (qc_bd (fX12_layAll w (qc_u I 291 50 (2 : Int32)) L D R ((qc_u I 291 50 (2 : Int32)) 291 59)) fun r5 I5 L5 D5 R5 => qc_gd (qc_inb (I5 291 59) 420) <| qc_bd (fX12_most w I5 L5 D5 R5 x2 (I5 304 (Int32.toNatClampNeg (I5 291 59)))) fun r7 I7 L7 D7 R7 => fX12_makes_b292 w I7 L7 D7 R7 r7))
set_option maxRecDepth 100000 in
set_option maxHeartbeats 4000000 in
theorem tX12_makes_b257 {w : qcW} {I : qTI} {L : qTL} {D : qTD} {R : qTR} {x2 : Int32} {r : Unit} {I' : qTI} {L' : qTL} {D' : qTD} {R' : qTR} (hn : qcNF ≤ w.1) (hR : qc_FR R) (h : fX12_makes_b257 w I L D R x2 = some (r, I', L', D', R')) : qc_fm qcSM (I, L, D, R) (I', L', D', R') ∧ qc_X (qc_rm (5) 0 0) qmX12_makes (qc_QM 0 0 (qc_eq none w (I', L', D', R'))) 0 0 w (257, [(0, .ref 291), (2, .int x2)], [], I, L, D, R) := by
  unfold fX12_makes_b257 at h
  refine And.imp_right (fun hx => qc_aload_n (qc_at qkX12_makes 143 rfl) rfl <| qc_iconst (qc_at qkX12_makes 144 rfl) <| hx) (qd_pI (qc_at qkX12_makes 145 rfl) hn rfl rfl ?_)
  refine And.imp_right (fun hx => qc_aload_n (qc_at qkX12_makes 146 rfl) rfl <| qc_gI (qc_at qkX12_makes 147 rfl) hn rfl <| qc_iconst (qc_at qkX12_makes 148 rfl) <| hx) ?_
  refine qc_andC (qc_icmp_eq (qc_at qkX12_makes 149 rfl)) (fun u4 => ?_) (fun u4 => ?_)
  · replace h := qc_jp u4 h
    exact And.imp_right (fun hx => qc_sub [0, 1] rfl hx) (tX12_makes_b292 hn hR h)
  · replace h := qc_jn u4 h
    refine And.imp_right (fun hx => qc_aload_n (qc_at qkX12_makes 150 rfl) rfl <| qc_aload_n (qc_at qkX12_makes 151 rfl) rfl <| qc_gI (qc_at qkX12_makes 152 rfl) hn rfl <| hx) ?_
    obtain ⟨r5, I5, L5, D5, R5, e5, h⟩ := qc_bd_of h
    have c5 := (tX12_layAll hn hR e5)
    refine qd_cVn (ci := 10) (a0 := 291) (qc_at qkX12_makes 153 rfl) ql_12_573 qfX12_layAll (qc_kf hn rfl) rfl c5 rfl rfl (Nat.le_of_ble_eq_true rfl) (qc_rml (by decide) (by decide)) ⟨Nat.zero_le _, Nat.zero_le _⟩ ?_
    refine And.imp_right (fun hx => qc_iload_n (qc_at qkX12_makes 154 rfl) rfl <| qc_aload_n (qc_at qkX12_makes 155 rfl) rfl <| qc_gR (qc_at qkX12_makes 156 rfl) hn rfl (qfr_291_24 (c5.1.1 hR)) rfl <| qc_aload_n (qc_at qkX12_makes 157 rfl) rfl <| qc_gI (qc_at qkX12_makes 158 rfl) hn rfl <| hx) ?_
    obtain ⟨g6, h⟩ := qc_gd_of h
    refine And.imp_right (fun hx => qc_iald 420 (qc_at qkX12_makes 159 rfl) hn rfl (qc_inb_in g6) <| hx) ?_
    obtain ⟨r7, I7, L7, D7, R7, e7, h⟩ := qc_bd_of h
    have c7 := (tX12_most hn (c5.1.1 hR) e7)
    refine qd_cSv (qc_at qkX12_makes 160 rfl) ql_12_314 qfX12_most c7 rfl rfl (Nat.le_of_ble_eq_true rfl) (qc_rml (by decide) (by decide)) ⟨Nat.zero_le _, Nat.zero_le _⟩ ?_
    exact And.imp_right (fun hx => qc_istore_n (lv' := [(2, _), (0, _)]) (qc_at qkX12_makes 161 rfl) rfl rfl <| qc_sub [1, 0] rfl hx) (tX12_makes_b292 hn (c7.1.1 (c5.1.1 hR)) h)
def fX12_makes_b239 (w : qcW) (I : qTI) (L : qTL) (D : qTD) (R : qTR) (s0 : Int32) (s1 : Int32) (s2 : Int32) : qcO Unit :=
  (qc_bd (fX12_most w I L D R s2 (s1 + s0)) fun r8 I8 L8 D8 R8 => fX12_makes_b257 w I8 L8 D8 R8 r8)
set_option maxRecDepth 100000 in
set_option maxHeartbeats 4000000 in
theorem tX12_makes_b239 {w : qcW} {I : qTI} {L : qTL} {D : qTD} {R : qTR} {s0 : Int32} {s1 : Int32} {s2 : Int32} {r : Unit} {I' : qTI} {L' : qTL} {D' : qTD} {R' : qTR} (hn : qcNF ≤ w.1) (hR : qc_FR R) (h : fX12_makes_b239 w I L D R s0 s1 s2 = some (r, I', L', D', R')) : qc_fm qcSM (I, L, D, R) (I', L', D', R') ∧ qc_X (qc_rm (5) 0 0) qmX12_makes (qc_QM 0 0 (qc_eq none w (I', L', D', R'))) 0 0 w (239, [(0, .ref 291)], [.int s0, .int s1, .int s2], I, L, D, R) := by
  unfold fX12_makes_b239 at h
  refine And.imp_right (fun hx => qc_iadd (qc_at qkX12_makes 133 rfl) <| hx) ?_
  obtain ⟨r8, I8, L8, D8, R8, e8, h⟩ := qc_bd_of h
  have c8 := (tX12_most hn hR e8)
  refine qd_cSv (qc_at qkX12_makes 134 rfl) ql_12_314 qfX12_most c8 rfl rfl (Nat.le_of_ble_eq_true rfl) (qc_rml (by decide) (by decide)) ⟨Nat.zero_le _, Nat.zero_le _⟩ ?_
  exact And.imp_right (fun hx => qc_istore_n (lv' := [(2, _), (0, _)]) (qc_at qkX12_makes 135 rfl) rfl rfl <| qc_goto (qc_at qkX12_makes 136 rfl) <| qc_sub [1, 0] rfl hx) (tX12_makes_b257 hn (c8.1.1 hR) h)
def fX12_makes_b219 (w : qcW) (I : qTI) (L : qTL) (D : qTD) (R : qTR) (x1 : Int32) (x2 : Int32) : qcO Unit :=
  (qc_gd (qc_inb (I 291 58) 420) <| if x1 = (2 : Int32) then (fX12_makes_b239 w I L D R (1 : Int32) (I 304 (Int32.toNatClampNeg (I 291 58))) x2) else (fX12_makes_b239 w I L D R (0 : Int32) (I 304 (Int32.toNatClampNeg (I 291 58))) x2))
set_option maxRecDepth 100000 in
set_option maxHeartbeats 4000000 in
theorem tX12_makes_b219 {w : qcW} {I : qTI} {L : qTL} {D : qTD} {R : qTR} {x1 : Int32} {x2 : Int32} {r : Unit} {I' : qTI} {L' : qTL} {D' : qTD} {R' : qTR} (hn : qcNF ≤ w.1) (hR : qc_FR R) (h : fX12_makes_b219 w I L D R x1 x2 = some (r, I', L', D', R')) : qc_fm qcSM (I, L, D, R) (I', L', D', R') ∧ qc_X (qc_rm (5) 0 0) qmX12_makes (qc_QM 0 0 (qc_eq none w (I', L', D', R'))) 0 0 w (219, [(0, .ref 291), (1, .int x1), (2, .int x2)], [], I, L, D, R) := by
  unfold fX12_makes_b219 at h
  refine And.imp_right (fun hx => qc_iload_n (qc_at qkX12_makes 121 rfl) rfl <| qc_aload_n (qc_at qkX12_makes 122 rfl) rfl <| qc_gR (qc_at qkX12_makes 123 rfl) hn rfl (qfr_291_24 hR) rfl <| qc_aload_n (qc_at qkX12_makes 124 rfl) rfl <| qc_gI (qc_at qkX12_makes 125 rfl) hn rfl <| hx) ?_
  obtain ⟨g9, h⟩ := qc_gd_of h
  refine And.imp_right (fun hx => qc_iald 420 (qc_at qkX12_makes 126 rfl) hn rfl (qc_inb_in g9) <| qc_iload_n (qc_at qkX12_makes 127 rfl) rfl <| qc_iconst (qc_at qkX12_makes 128 rfl) <| hx) ?_
  refine qc_andN (qc_icmp_ne (qc_at qkX12_makes 129 rfl)) (fun u10 => ?_) (fun u10 => ?_)
  · replace h := qc_jn u10 h
    exact And.imp_right (fun hx => qc_iconst (qc_at qkX12_makes 132 rfl) <| qc_sub [0] rfl hx) (tX12_makes_b239 hn hR h)
  · replace h := qc_jp u10 h
    exact And.imp_right (fun hx => qc_iconst (qc_at qkX12_makes 130 rfl) <| qc_goto (qc_at qkX12_makes 131 rfl) <| qc_sub [0] rfl hx) (tX12_makes_b239 hn hR h)
def fX12_makes_b135 (w : qcW) (I : qTI) (L : qTL) (D : qTD) (R : qTR) (x1 : Int32) (x2 : Int32) (x4 : Int32) : qcO Unit :=
  (qc_bd (fX12_emit w I L D R ((20 : Int32) + x4) (I 291 63)) fun r11 I11 L11 D11 R11 => fX12_makes_b219 w I11 L11 D11 R11 x1 x2)
set_option maxRecDepth 100000 in
set_option maxHeartbeats 4000000 in
theorem tX12_makes_b135 {w : qcW} {I : qTI} {L : qTL} {D : qTD} {R : qTR} {x1 : Int32} {x2 : Int32} {x4 : Int32} {r : Unit} {I' : qTI} {L' : qTL} {D' : qTD} {R' : qTR} (hn : qcNF ≤ w.1) (hR : qc_FR R) (h : fX12_makes_b135 w I L D R x1 x2 x4 = some (r, I', L', D', R')) : qc_fm qcSM (I, L, D, R) (I', L', D', R') ∧ qc_X (qc_rm (5) 0 0) qmX12_makes (qc_QM 0 0 (qc_eq none w (I', L', D', R'))) 0 0 w (135, [(0, .ref 291), (1, .int x1), (2, .int x2), (4, .int x4)], [], I, L, D, R) := by
  unfold fX12_makes_b135 at h
  refine And.imp_right (fun hx => qc_aload_n (qc_at qkX12_makes 78 rfl) rfl <| qc_bipush (qc_at qkX12_makes 79 rfl) <| qc_iload (qc_at qkX12_makes 80 rfl) rfl <| qc_iadd (qc_at qkX12_makes 81 rfl) <| qc_aload_n (qc_at qkX12_makes 82 rfl) rfl <| qc_gI (qc_at qkX12_makes 83 rfl) hn rfl <| hx) ?_
  obtain ⟨r11, I11, L11, D11, R11, e11, h⟩ := qc_bd_of h
  have c11 := (tX12_emit hn hR e11)
  refine qd_cVn (ci := 10) (a0 := 291) (qc_at qkX12_makes 84 rfl) ql_12_478 qfX12_emit (qc_kf hn rfl) rfl c11 rfl rfl (Nat.le_of_ble_eq_true rfl) (qc_rml (by decide) (by decide)) ⟨Nat.zero_le _, Nat.zero_le _⟩ ?_
  exact And.imp_right (fun hx => qc_goto (qc_at qkX12_makes 85 rfl) <| qc_sub [0, 1, 2] rfl hx) (tX12_makes_b219 hn (c11.1.1 hR) h)
def fX12_makes_b191 (w : qcW) (I : qTI) (L : qTL) (D : qTD) (R : qTR) (x1 : Int32) (x2 : Int32) (x3 : Int32) (s0 : Int32) : qcO Unit :=
  (qc_bd (fX12_layAll w I L D R (I 291 58)) fun r12 I12 L12 D12 R12 => qc_bd (fX12_becomes w I12 L12 D12 R12 x3 s0) fun r13 I13 L13 D13 R13 => qc_gd (qc_inb (I13 291 40) 12) <| fX12_makes_b219 w (qc_u I13 322 (Int32.toNatClampNeg (I13 291 40)) s0) L13 D13 R13 x1 x2)
set_option maxRecDepth 100000 in
set_option maxHeartbeats 4000000 in
theorem tX12_makes_b191 {w : qcW} {I : qTI} {L : qTL} {D : qTD} {R : qTR} {x1 : Int32} {x2 : Int32} {x3 : Int32} {s0 : Int32} {r : Unit} {I' : qTI} {L' : qTL} {D' : qTD} {R' : qTR} (hn : qcNF ≤ w.1) (hR : qc_FR R) (h : fX12_makes_b191 w I L D R x1 x2 x3 s0 = some (r, I', L', D', R')) : qc_fm qcSM (I, L, D, R) (I', L', D', R') ∧ qc_X (qc_rm (5) 0 0) qmX12_makes (qc_QM 0 0 (qc_eq none w (I', L', D', R'))) 0 0 w (191, [(0, .ref 291), (1, .int x1), (2, .int x2), (3, .int x3)], [.int s0], I, L, D, R) := by
  unfold fX12_makes_b191 at h
  refine And.imp_right (fun hx => qc_istore (lv' := [(4, _), (0, _), (1, _), (2, _), (3, _)]) (qc_at qkX12_makes 106 rfl) rfl rfl <| qc_aload_n (qc_at qkX12_makes 107 rfl) rfl <| qc_aload_n (qc_at qkX12_makes 108 rfl) rfl <| qc_gI (qc_at qkX12_makes 109 rfl) hn rfl <| hx) ?_
  obtain ⟨r12, I12, L12, D12, R12, e12, h⟩ := qc_bd_of h
  have c12 := (tX12_layAll hn hR e12)
  refine qd_cVn (ci := 10) (a0 := 291) (qc_at qkX12_makes 110 rfl) ql_12_573 qfX12_layAll (qc_kf hn rfl) rfl c12 rfl rfl (Nat.le_of_ble_eq_true rfl) (qc_rml (by decide) (by decide)) ⟨Nat.zero_le _, Nat.zero_le _⟩ ?_
  refine And.imp_right (fun hx => qc_aload_n (qc_at qkX12_makes 111 rfl) rfl <| qc_iload_n (qc_at qkX12_makes 112 rfl) rfl <| qc_iload (qc_at qkX12_makes 113 rfl) rfl <| hx) ?_
  obtain ⟨r13, I13, L13, D13, R13, e13, h⟩ := qc_bd_of h
  have c13 := (tX12_becomes hn (c12.1.1 hR) e13)
  refine qd_cVn (ci := 10) (a0 := 291) (qc_at qkX12_makes 114 rfl) ql_12_481 qfX12_becomes (qc_kf hn rfl) rfl c13 rfl rfl (Nat.le_of_ble_eq_true rfl) (qc_rml (by decide) (by decide)) ⟨Nat.zero_le _, Nat.zero_le _⟩ ?_
  refine And.imp_right (fun hx => qc_aload_n (qc_at qkX12_makes 115 rfl) rfl <| qc_gR (qc_at qkX12_makes 116 rfl) hn rfl (qfr_291_48 (c13.1.1 (c12.1.1 hR))) rfl <| qc_aload_n (qc_at qkX12_makes 117 rfl) rfl <| qc_gI (qc_at qkX12_makes 118 rfl) hn rfl <| qc_iload (qc_at qkX12_makes 119 rfl) rfl <| hx) ?_
  obtain ⟨g14, h⟩ := qc_gd_of h
  refine qd_iast 12 (qc_at qkX12_makes 120 rfl) hn rfl (qc_inb_in g14) rfl ?_
  exact And.imp_right (fun hx => qc_sub [1, 2, 3] rfl hx) (tX12_makes_b219 hn (c13.1.1 (c12.1.1 hR)) h)
def fX12_makes_b163 (w : qcW) (I : qTI) (L : qTL) (D : qTD) (R : qTR) (x1 : Int32) (x2 : Int32) (x3 : Int32) : qcO Unit :=
  (fX12_makes_b191 w I L D R x1 x2 x3 (4 : Int32))
set_option maxRecDepth 100000 in
set_option maxHeartbeats 4000000 in
theorem tX12_makes_b163 {w : qcW} {I : qTI} {L : qTL} {D : qTD} {R : qTR} {x1 : Int32} {x2 : Int32} {x3 : Int32} {r : Unit} {I' : qTI} {L' : qTL} {D' : qTD} {R' : qTR} (hn : qcNF ≤ w.1) (hR : qc_FR R) (h : fX12_makes_b163 w I L D R x1 x2 x3 = some (r, I', L', D', R')) : qc_fm qcSM (I, L, D, R) (I', L', D', R') ∧ qc_X (qc_rm (5) 0 0) qmX12_makes (qc_QM 0 0 (qc_eq none w (I', L', D', R'))) 0 0 w (163, [(0, .ref 291), (1, .int x1), (2, .int x2), (3, .int x3)], [], I, L, D, R) := by
  unfold fX12_makes_b163 at h
  exact And.imp_right (fun hx => qc_iconst (qc_at qkX12_makes 92 rfl) <| qc_goto (qc_at qkX12_makes 93 rfl) <| qc_sub [0, 1, 2, 3] rfl hx) (tX12_makes_b191 hn hR h)
def fX12_makes_b65 (w : qcW) (I : qTI) (L : qTL) (D : qTD) (R : qTR) (x1 : Int32) (x2 : Int32) : qcO Unit :=
  (if ((qc_u I 291 50 (1 : Int32)) 291 58) = (-1 : Int32) then (qc_gd (qc_inb ((qc_u I 291 50 (1 : Int32)) 291 40) 12) <| fX12_makes_b257 w (qc_u (qc_u I 291 50 (1 : Int32)) 322 (Int32.toNatClampNeg ((qc_u I 291 50 (1 : Int32)) 291 40)) (2 : Int32)) L D R x2) else (qc_gd (qc_inb ((qc_u I 291 50 (1 : Int32)) 291 58) 420) <| if x1 = (2 : Int32) then (qc_bd (fX12_emit w (qc_u I 291 50 (1 : Int32)) L D R (3 : Int32) (0 : Int32)) fun r24 I24 L24 D24 R24 => qc_bd (fX12_layAll w I24 L24 D24 R24 (I24 291 58)) fun r25 I25 L25 D25 R25 => qc_gd (qc_inb (I25 291 63) 10) <| qc_gd (qc_inb (I25 292 (Int32.toNatClampNeg (I25 291 63))) 11) <| if (I25 293 (Int32.toNatClampNeg (I25 292 (Int32.toNatClampNeg (I25 291 63))))) ≤ 0 then (fX12_makes_b135 w I25 L25 D25 R25 x1 x2 (I25 293 (Int32.toNatClampNeg (I25 292 (Int32.toNatClampNeg (I25 291 63)))))) else (qc_bd (fX12_casts w I25 L25 D25 R25 ((qc_u I 291 50 (1 : Int32)) 303 (Int32.toNatClampNeg ((qc_u I 291 50 (1 : Int32)) 291 58))) (I25 293 (Int32.toNatClampNeg (I25 292 (Int32.toNatClampNeg (I25 291 63)))))) fun r29 I29 L29 D29 R29 => fX12_makes_b135 w I29 L29 D29 R29 x1 x2 (I25 293 (Int32.toNatClampNeg (I25 292 (Int32.toNatClampNeg (I25 291 63))))))) else (if x1 = 0 then (fX12_makes_b163 w (qc_u I 291 50 (1 : Int32)) L D R x1 x2 ((qc_u I 291 50 (1 : Int32)) 303 (Int32.toNatClampNeg ((qc_u I 291 50 (1 : Int32)) 291 58)))) else (if ((qc_u I 291 50 (1 : Int32)) 291 62) = (4 : Int32) then (fX12_makes_b163 w (qc_u I 291 50 (1 : Int32)) L D R x1 x2 ((qc_u I 291 50 (1 : Int32)) 303 (Int32.toNatClampNeg ((qc_u I 291 50 (1 : Int32)) 291 58)))) else (if ((qc_u I 291 50 (1 : Int32)) 291 62) = (1 : Int32) then (qc_bd (fX12_isWhole w (qc_u I 291 50 (1 : Int32)) L D R ((qc_u I 291 50 (1 : Int32)) 303 (Int32.toNatClampNeg ((qc_u I 291 50 (1 : Int32)) 291 58)))) fun r22 I22 L22 D22 R22 => if r22 = true then (fX12_makes_b191 w I22 L22 D22 R22 x1 x2 ((qc_u I 291 50 (1 : Int32)) 303 (Int32.toNatClampNeg ((qc_u I 291 50 (1 : Int32)) 291 58))) (2 : Int32)) else (fX12_makes_b191 w I22 L22 D22 R22 x1 x2 ((qc_u I 291 50 (1 : Int32)) 303 (Int32.toNatClampNeg ((qc_u I 291 50 (1 : Int32)) 291 58))) (4 : Int32))) else (fX12_makes_b191 w (qc_u I 291 50 (1 : Int32)) L D R x1 x2 ((qc_u I 291 50 (1 : Int32)) 303 (Int32.toNatClampNeg ((qc_u I 291 50 (1 : Int32)) 291 58))) ((qc_u I 291 50 (1 : Int32)) 303 (Int32.toNatClampNeg ((qc_u I 291 50 (1 : Int32)) 291 58)))))))))
set_option maxRecDepth 100000 in
set_option maxHeartbeats 4000000 in
theorem tX12_makes_b65 {w : qcW} {I : qTI} {L : qTL} {D : qTD} {R : qTR} {x1 : Int32} {x2 : Int32} {r : Unit} {I' : qTI} {L' : qTL} {D' : qTD} {R' : qTR} (hn : qcNF ≤ w.1) (hR : qc_FR R) (h : fX12_makes_b65 w I L D R x1 x2 = some (r, I', L', D', R')) : qc_fm qcSM (I, L, D, R) (I', L', D', R') ∧ qc_X (qc_rm (5) 0 0) qmX12_makes (qc_QM 0 0 (qc_eq none w (I', L', D', R'))) 0 0 w (65, [(0, .ref 291), (1, .int x1), (2, .int x2)], [], I, L, D, R) := by
  unfold fX12_makes_b65 at h
  refine And.imp_right (fun hx => qc_aload_n (qc_at qkX12_makes 39 rfl) rfl <| qc_iconst (qc_at qkX12_makes 40 rfl) <| hx) (qd_pI (qc_at qkX12_makes 41 rfl) hn rfl rfl ?_)
  refine And.imp_right (fun hx => qc_aload_n (qc_at qkX12_makes 42 rfl) rfl <| qc_gI (qc_at qkX12_makes 43 rfl) hn rfl <| qc_iconst (qc_at qkX12_makes 44 rfl) <| hx) ?_
  refine qc_andC (qc_icmp_eq (qc_at qkX12_makes 45 rfl)) (fun u15 => ?_) (fun u15 => ?_)
  · replace h := qc_jp u15 h
    refine And.imp_right (fun hx => qc_aload_n (qc_at qkX12_makes 137 rfl) rfl <| qc_gR (qc_at qkX12_makes 138 rfl) hn rfl (qfr_291_48 hR) rfl <| qc_aload_n (qc_at qkX12_makes 139 rfl) rfl <| qc_gI (qc_at qkX12_makes 140 rfl) hn rfl <| qc_iconst (qc_at qkX12_makes 141 rfl) <| hx) ?_
    obtain ⟨g16, h⟩ := qc_gd_of h
    refine qd_iast 12 (qc_at qkX12_makes 142 rfl) hn rfl (qc_inb_in g16) rfl ?_
    exact And.imp_right (fun hx => qc_sub [0, 2] rfl hx) (tX12_makes_b257 hn hR h)
  · replace h := qc_jn u15 h
    refine And.imp_right (fun hx => qc_aload_n (qc_at qkX12_makes 46 rfl) rfl <| qc_gR (qc_at qkX12_makes 47 rfl) hn rfl (qfr_291_23 hR) rfl <| qc_aload_n (qc_at qkX12_makes 48 rfl) rfl <| qc_gI (qc_at qkX12_makes 49 rfl) hn rfl <| hx) ?_
    obtain ⟨g17, h⟩ := qc_gd_of h
    refine And.imp_right (fun hx => qc_iald 420 (qc_at qkX12_makes 50 rfl) hn rfl (qc_inb_in g17) <| qc_istore_n (lv' := [(3, _), (0, _), (1, _), (2, _)]) (qc_at qkX12_makes 51 rfl) rfl rfl <| qc_iload_n (qc_at qkX12_makes 52 rfl) rfl <| qc_iconst (qc_at qkX12_makes 53 rfl) <| hx) ?_
    refine qc_andN (qc_icmp_ne (qc_at qkX12_makes 54 rfl)) (fun u18 => ?_) (fun u18 => ?_)
    · replace h := qc_jn u18 h
      refine And.imp_right (fun hx => qc_iload_n (qc_at qkX12_makes 86 rfl) rfl <| hx) ?_
      refine qc_andC (qc_if_eq (qc_at qkX12_makes 87 rfl)) (fun u19 => ?_) (fun u19 => ?_)
      · replace h := qc_jp u19 h
        exact And.imp_right (fun hx => qc_sub [1, 2, 3, 0] rfl hx) (tX12_makes_b163 hn hR h)
      · replace h := qc_jn u19 h
        refine And.imp_right (fun hx => qc_aload_n (qc_at qkX12_makes 88 rfl) rfl <| qc_gI (qc_at qkX12_makes 89 rfl) hn rfl <| qc_iconst (qc_at qkX12_makes 90 rfl) <| hx) ?_
        refine qc_andN (qc_icmp_ne (qc_at qkX12_makes 91 rfl)) (fun u20 => ?_) (fun u20 => ?_)
        · replace h := qc_jn u20 h
          refine And.imp_right (fun hx => qc_aload_n (qc_at qkX12_makes 94 rfl) rfl <| qc_gI (qc_at qkX12_makes 95 rfl) hn rfl <| qc_iconst (qc_at qkX12_makes 96 rfl) <| hx) ?_
          refine qc_andN (qc_icmp_ne (qc_at qkX12_makes 97 rfl)) (fun u21 => ?_) (fun u21 => ?_)
          · replace h := qc_jn u21 h
            exact And.imp_right (fun hx => qc_iload_n (qc_at qkX12_makes 105 rfl) rfl <| qc_sub [1, 2, 3, 0] rfl hx) (tX12_makes_b191 hn hR h)
          · replace h := qc_jp u21 h
            refine And.imp_right (fun hx => qc_iload_n (qc_at qkX12_makes 98 rfl) rfl <| hx) ?_
            obtain ⟨r22, I22, L22, D22, R22, e22, h⟩ := qc_bd_of h
            have c22 := (tX12_isWhole hn hR e22)
            refine qd_cSv (qc_at qkX12_makes 99 rfl) ql_12_336 qfX12_isWhole c22 rfl rfl (Nat.le_of_ble_eq_true rfl) (qc_rml (by decide) (by decide)) ⟨Nat.zero_le _, Nat.zero_le _⟩ ?_
            refine qc_andB (qc_ifB_eq (qc_at qkX12_makes 100 rfl)) (fun u23 => ?_) (fun u23 => ?_)
            · replace h := qc_jf u23 h
              exact And.imp_right (fun hx => qc_iconst (qc_at qkX12_makes 103 rfl) <| qc_goto (qc_at qkX12_makes 104 rfl) <| qc_sub [1, 2, 3, 0] rfl hx) (tX12_makes_b191 hn (c22.1.1 hR) h)
            · replace h := qc_jt u23 h
              exact And.imp_right (fun hx => qc_iconst (qc_at qkX12_makes 101 rfl) <| qc_goto (qc_at qkX12_makes 102 rfl) <| qc_sub [1, 2, 3, 0] rfl hx) (tX12_makes_b191 hn (c22.1.1 hR) h)
        · replace h := qc_jp u20 h
          exact And.imp_right (fun hx => qc_sub [1, 2, 3, 0] rfl hx) (tX12_makes_b163 hn hR h)
    · replace h := qc_jp u18 h
      refine And.imp_right (fun hx => qc_aload_n (qc_at qkX12_makes 55 rfl) rfl <| qc_iconst (qc_at qkX12_makes 56 rfl) <| qc_iconst (qc_at qkX12_makes 57 rfl) <| hx) ?_
      obtain ⟨r24, I24, L24, D24, R24, e24, h⟩ := qc_bd_of h
      have c24 := (tX12_emit hn hR e24)
      refine qd_cVn (ci := 10) (a0 := 291) (qc_at qkX12_makes 58 rfl) ql_12_478 qfX12_emit (qc_kf hn rfl) rfl c24 rfl rfl (Nat.le_of_ble_eq_true rfl) (qc_rml (by decide) (by decide)) ⟨Nat.zero_le _, Nat.zero_le _⟩ ?_
      refine And.imp_right (fun hx => qc_aload_n (qc_at qkX12_makes 59 rfl) rfl <| qc_aload_n (qc_at qkX12_makes 60 rfl) rfl <| qc_gI (qc_at qkX12_makes 61 rfl) hn rfl <| hx) ?_
      obtain ⟨r25, I25, L25, D25, R25, e25, h⟩ := qc_bd_of h
      have c25 := (tX12_layAll hn (c24.1.1 hR) e25)
      refine qd_cVn (ci := 10) (a0 := 291) (qc_at qkX12_makes 62 rfl) ql_12_573 qfX12_layAll (qc_kf hn rfl) rfl c25 rfl rfl (Nat.le_of_ble_eq_true rfl) (qc_rml (by decide) (by decide)) ⟨Nat.zero_le _, Nat.zero_le _⟩ ?_
      refine And.imp_right (fun hx => qc_aload_n (qc_at qkX12_makes 63 rfl) rfl <| qc_gR (qc_at qkX12_makes 64 rfl) hn rfl (qfr_291_2 (c25.1.1 (c24.1.1 hR))) rfl <| qc_aload_n (qc_at qkX12_makes 65 rfl) rfl <| qc_gR (qc_at qkX12_makes 66 rfl) hn rfl (qfr_291_1 (c25.1.1 (c24.1.1 hR))) rfl <| qc_aload_n (qc_at qkX12_makes 67 rfl) rfl <| qc_gI (qc_at qkX12_makes 68 rfl) hn rfl <| hx) ?_
      obtain ⟨g26, h⟩ := qc_gd_of h
      refine And.imp_right (fun hx => qc_iald 10 (qc_at qkX12_makes 69 rfl) hn rfl (qc_inb_in g26) <| hx) ?_
      obtain ⟨g27, h⟩ := qc_gd_of h
      refine And.imp_right (fun hx => qc_iald 11 (qc_at qkX12_makes 70 rfl) hn rfl (qc_inb_in g27) <| qc_istore (lv' := [(4, _), (3, _), (0, _), (1, _), (2, _)]) (qc_at qkX12_makes 71 rfl) rfl rfl <| qc_iload (qc_at qkX12_makes 72 rfl) rfl <| hx) ?_
      refine qc_andC (qc_if_le (qc_at qkX12_makes 73 rfl)) (fun u28 => ?_) (fun u28 => ?_)
      · replace h := qc_jp u28 h
        exact And.imp_right (fun hx => qc_sub [2, 3, 4, 0] rfl hx) (tX12_makes_b135 hn (c25.1.1 (c24.1.1 hR)) h)
      · replace h := qc_jn u28 h
        refine And.imp_right (fun hx => qc_aload_n (qc_at qkX12_makes 74 rfl) rfl <| qc_iload_n (qc_at qkX12_makes 75 rfl) rfl <| qc_iload (qc_at qkX12_makes 76 rfl) rfl <| hx) ?_
        obtain ⟨r29, I29, L29, D29, R29, e29, h⟩ := qc_bd_of h
        have c29 := (tX12_casts hn (c25.1.1 (c24.1.1 hR)) e29)
        refine qd_cVn (ci := 10) (a0 := 291) (qc_at qkX12_makes 77 rfl) ql_12_497 qfX12_casts (qc_kf hn rfl) rfl c29 rfl rfl (Nat.le_of_ble_eq_true rfl) (qc_rml (by decide) (by decide)) ⟨Nat.zero_le _, Nat.zero_le _⟩ ?_
        exact And.imp_right (fun hx => qc_sub [2, 3, 4, 0] rfl hx) (tX12_makes_b135 hn (c29.1.1 (c25.1.1 (c24.1.1 hR))) h)
def fX12_makes_b7 (w : qcW) (k7 : qTI × qTL × qTD × qTR × Int32 × Int32 → qcO Unit) (I : qTI) (L : qTL) (D : qTD) (R : qTR) (x1 : Int32) (x2 : Int32) : qcO Unit :=
  (if (3 : Int32) ≤ x2 then (if (I 291 57) = (-1 : Int32) then (fX12_makes_b65 w I L D R x1 (0 : Int32)) else (qc_bd (fX12_layAll w (qc_u I 291 50 (0 : Int32)) L D R ((qc_u I 291 50 (0 : Int32)) 291 57)) fun r32 I32 L32 D32 R32 => qc_gd (qc_inb (I32 291 57) 420) <| fX12_makes_b65 w I32 L32 D32 R32 x1 (I32 304 (Int32.toNatClampNeg (I32 291 57))))) else (qc_gd (qc_inb (((3 : Int32) * (I 291 40)) + x2) 36) <| k7 ((qc_u I 317 (Int32.toNatClampNeg (((3 : Int32) * (I 291 40)) + x2)) (0 : Int32)), L, D, R, x1, (x2 + (1)))))
set_option maxRecDepth 100000 in
set_option maxHeartbeats 4000000 in
theorem tX12_makes_b7 {w : qcW} {I : qTI} {L : qTL} {D : qTD} {R : qTR} {k7 : qTI × qTL × qTD × qTR × Int32 × Int32 → qcO Unit} {x1 : Int32} {x2 : Int32} {r : Unit} {I' : qTI} {L' : qTL} {D' : qTD} {R' : qTR} (hn : qcNF ≤ w.1) (hR : qc_FR R) (hk7 : ∀ {I : qTI} {L : qTL} {D : qTD} {R : qTR} {x1 : Int32} {x2 : Int32} {r : Unit} {I' : qTI} {L' : qTL} {D' : qTD} {R' : qTR}, qc_FR R → k7 (I, L, D, R, x1, x2) = some (r, I', L', D', R') → qc_fm qcSM (I, L, D, R) (I', L', D', R') ∧ qc_X (qc_rm (5) 0 0) qmX12_makes (qc_QM 0 0 (qc_eq none w (I', L', D', R'))) 0 0 w (7, [(0, .ref 291), (1, .int x1), (2, .int x2)], [], I, L, D, R)) (h : fX12_makes_b7 w k7 I L D R x1 x2 = some (r, I', L', D', R')) : qc_fm qcSM (I, L, D, R) (I', L', D', R') ∧ qc_X (qc_rm (5) 0 0) qmX12_makes (qc_QM 0 0 (qc_eq none w (I', L', D', R'))) 0 0 w (7, [(0, .ref 291), (1, .int x1), (2, .int x2)], [], I, L, D, R) := by
  unfold fX12_makes_b7 at h
  refine And.imp_right (fun hx => qc_iload_n (qc_at qkX12_makes 5 rfl) rfl <| qc_iconst (qc_at qkX12_makes 6 rfl) <| hx) ?_
  refine qc_andC (qc_icmp_ge (qc_at qkX12_makes 7 rfl)) (fun u30 => ?_) (fun u30 => ?_)
  · replace h := qc_jp u30 h
    refine And.imp_right (fun hx => qc_iconst (qc_at qkX12_makes 20 rfl) <| qc_istore_n (lv' := [(2, _), (0, _), (1, _)]) (qc_at qkX12_makes 21 rfl) rfl rfl <| qc_aload_n (qc_at qkX12_makes 22 rfl) rfl <| qc_gI (qc_at qkX12_makes 23 rfl) hn rfl <| qc_iconst (qc_at qkX12_makes 24 rfl) <| hx) ?_
    refine qc_andC (qc_icmp_eq (qc_at qkX12_makes 25 rfl)) (fun u31 => ?_) (fun u31 => ?_)
    · replace h := qc_jp u31 h
      exact And.imp_right (fun hx => qc_sub [1, 2, 0] rfl hx) (tX12_makes_b65 hn hR h)
    · replace h := qc_jn u31 h
      refine And.imp_right (fun hx => qc_aload_n (qc_at qkX12_makes 26 rfl) rfl <| qc_iconst (qc_at qkX12_makes 27 rfl) <| hx) (qd_pI (qc_at qkX12_makes 28 rfl) hn rfl rfl ?_)
      refine And.imp_right (fun hx => qc_aload_n (qc_at qkX12_makes 29 rfl) rfl <| qc_aload_n (qc_at qkX12_makes 30 rfl) rfl <| qc_gI (qc_at qkX12_makes 31 rfl) hn rfl <| hx) ?_
      obtain ⟨r32, I32, L32, D32, R32, e32, h⟩ := qc_bd_of h
      have c32 := (tX12_layAll hn hR e32)
      refine qd_cVn (ci := 10) (a0 := 291) (qc_at qkX12_makes 32 rfl) ql_12_573 qfX12_layAll (qc_kf hn rfl) rfl c32 rfl rfl (Nat.le_of_ble_eq_true rfl) (qc_rml (by decide) (by decide)) ⟨Nat.zero_le _, Nat.zero_le _⟩ ?_
      refine And.imp_right (fun hx => qc_aload_n (qc_at qkX12_makes 33 rfl) rfl <| qc_gR (qc_at qkX12_makes 34 rfl) hn rfl (qfr_291_24 (c32.1.1 hR)) rfl <| qc_aload_n (qc_at qkX12_makes 35 rfl) rfl <| qc_gI (qc_at qkX12_makes 36 rfl) hn rfl <| hx) ?_
      obtain ⟨g33, h⟩ := qc_gd_of h
      exact And.imp_right (fun hx => qc_iald 420 (qc_at qkX12_makes 37 rfl) hn rfl (qc_inb_in g33) <| qc_istore_n (lv' := [(2, _), (0, _), (1, _)]) (qc_at qkX12_makes 38 rfl) rfl rfl <| qc_sub [1, 2, 0] rfl hx) (tX12_makes_b65 hn (c32.1.1 hR) h)
  · replace h := qc_jn u30 h
    refine And.imp_right (fun hx => qc_aload_n (qc_at qkX12_makes 8 rfl) rfl <| qc_gR (qc_at qkX12_makes 9 rfl) hn rfl (qfr_291_43 hR) rfl <| qc_iconst (qc_at qkX12_makes 10 rfl) <| qc_aload_n (qc_at qkX12_makes 11 rfl) rfl <| qc_gI (qc_at qkX12_makes 12 rfl) hn rfl <| qc_imul (qc_at qkX12_makes 13 rfl) <| qc_iload_n (qc_at qkX12_makes 14 rfl) rfl <| qc_iadd (qc_at qkX12_makes 15 rfl) <| qc_iconst (qc_at qkX12_makes 16 rfl) <| hx) ?_
    obtain ⟨g34, h⟩ := qc_gd_of h
    refine qd_iast 36 (qc_at qkX12_makes 17 rfl) hn rfl (qc_inb_in g34) rfl ?_
    exact And.imp_right (fun hx => qc_iinc (lv' := [(2, _), (0, _), (1, _)]) (qc_at qkX12_makes 18 rfl) rfl rfl rfl <| qc_goto (qc_at qkX12_makes 19 rfl) <| qc_sub [1, 2, 0] rfl hx) (hk7 hR h)
def fX12_makes_l7 (w : qcW) : Nat → qTI × qTL × qTD × qTR × Int32 × Int32 → qcO Unit := qc_lp (fun k q => match q with | (I, L, D, R, x1, x2) => fX12_makes_b7 w k I L D R x1 x2)
set_option maxRecDepth 100000 in
set_option maxHeartbeats 4000000 in
theorem tX12_makes_l7 {w : qcW} (hn : qcNF ≤ w.1) : ∀ (n : Nat) {r : Unit} {I' : qTI} {L' : qTL} {D' : qTD} {R' : qTR} {I : qTI} {L : qTL} {D : qTD} {R : qTR} {x1 : Int32} {x2 : Int32} (hR : qc_FR R) (h : fX12_makes_l7 w n (I, L, D, R, x1, x2) = some (r, I', L', D', R')), qc_fm qcSM (I, L, D, R) (I', L', D', R') ∧ qc_X (qc_rm (5) 0 0) qmX12_makes (qc_QM 0 0 (qc_eq none w (I', L', D', R'))) 0 0 w (7, [(0, .ref 291), (1, .int x1), (2, .int x2)], [], I, L, D, R) := by
  intro n
  induction n with
  | zero => intro _ _ _ _ _ _ _ _ _ _ _ _ h; cases h
  | succ n ih => intro _ _ _ _ _ _ _ _ _ _ _ hR h; exact tX12_makes_b7 hn hR (k7 := fX12_makes_l7 w n) (fun hR h => ih hR h) h
def fX12_makes (w : qcW) (I : qTI) (L : qTL) (D : qTD) (R : qTR) (x1 : Int32) : qcO Unit :=
  (fX12_makes_l7 w qcF ((qc_u I 291 51 (0 : Int32)), L, D, R, x1, (0 : Int32)))
set_option maxRecDepth 100000 in
set_option maxHeartbeats 4000000 in
theorem tX12_makes {w : qcW} {I : qTI} {L : qTL} {D : qTD} {R : qTR} {x1 : Int32} {r : Unit} {I' : qTI} {L' : qTL} {D' : qTD} {R' : qTR} (hn : qcNF ≤ w.1) (hR : qc_FR R) (h : fX12_makes w I L D R x1 = some (r, I', L', D', R')) : qc_fm qcSM (I, L, D, R) (I', L', D', R') ∧ qc_V (5) 0 0 qmX12_makes [.ref 291, .int x1] w (I, L, D, R) (qc_eq none w (I', L', D', R')) := by
  unfold fX12_makes at h
  refine And.imp_right (fun hx => qc_V.of rfl rfl (Nat.le_of_ble_eq_true rfl) (lv := [(0, .ref 291), (1, .int x1)]) rfl hx) ?_
  refine And.imp_right (fun hx => qc_aload_n (qc_at qkX12_makes 0 rfl) rfl <| qc_iconst (qc_at qkX12_makes 1 rfl) <| hx) (qd_pZ (qc_at qkX12_makes 2 rfl) hn rfl (Or.inl rfl) rfl ?_)
  exact And.imp_right (fun hx => qc_iconst (qc_at qkX12_makes 3 rfl) <| qc_istore_n (lv' := [(2, _), (0, _), (1, _)]) (qc_at qkX12_makes 4 rfl) rfl rfl <| qc_sub [1, 2, 0] rfl hx) (tX12_makes_l7 hn qcF hR h)
def fX12_query_b101 (w : qcW) (I : qTI) (L : qTL) (D : qTD) (R : qTR) (x1 : Int32) : qcO Int32 :=
  (if ((qc_u I 291 64 (I 291 15)) 291 15) ≤ 0 then (qc_gd (qc_inb ((qc_u I 291 64 (I 291 15)) 291 40) 12) <| qc_gd (qc_inb ((qc_u (qc_u I 291 64 (I 291 15)) 318 (Int32.toNatClampNeg ((qc_u I 291 64 (I 291 15)) 291 40)) x1) 291 40) 12) <| qc_gd (qc_inb ((qc_u (qc_u (qc_u I 291 64 (I 291 15)) 318 (Int32.toNatClampNeg ((qc_u I 291 64 (I 291 15)) 291 40)) x1) 319 (Int32.toNatClampNeg ((qc_u (qc_u I 291 64 (I 291 15)) 318 (Int32.toNatClampNeg ((qc_u I 291 64 (I 291 15)) 291 40)) x1) 291 40)) ((qc_u (qc_u I 291 64 (I 291 15)) 318 (Int32.toNatClampNeg ((qc_u I 291 64 (I 291 15)) 291 40)) x1) 291 60)) 291 40) 12) <| qc_gd (qc_inb ((qc_u (qc_u (qc_u (qc_u I 291 64 (I 291 15)) 318 (Int32.toNatClampNeg ((qc_u I 291 64 (I 291 15)) 291 40)) x1) 319 (Int32.toNatClampNeg ((qc_u (qc_u I 291 64 (I 291 15)) 318 (Int32.toNatClampNeg ((qc_u I 291 64 (I 291 15)) 291 40)) x1) 291 40)) ((qc_u (qc_u I 291 64 (I 291 15)) 318 (Int32.toNatClampNeg ((qc_u I 291 64 (I 291 15)) 291 40)) x1) 291 60)) 320 (Int32.toNatClampNeg ((qc_u (qc_u (qc_u I 291 64 (I 291 15)) 318 (Int32.toNatClampNeg ((qc_u I 291 64 (I 291 15)) 291 40)) x1) 319 (Int32.toNatClampNeg ((qc_u (qc_u I 291 64 (I 291 15)) 318 (Int32.toNatClampNeg ((qc_u I 291 64 (I 291 15)) 291 40)) x1) 291 40)) ((qc_u (qc_u I 291 64 (I 291 15)) 318 (Int32.toNatClampNeg ((qc_u I 291 64 (I 291 15)) 291 40)) x1) 291 60)) 291 40)) ((qc_u (qc_u (qc_u I 291 64 (I 291 15)) 318 (Int32.toNatClampNeg ((qc_u I 291 64 (I 291 15)) 291 40)) x1) 319 (Int32.toNatClampNeg ((qc_u (qc_u I 291 64 (I 291 15)) 318 (Int32.toNatClampNeg ((qc_u I 291 64 (I 291 15)) 291 40)) x1) 291 40)) ((qc_u (qc_u I 291 64 (I 291 15)) 318 (Int32.toNatClampNeg ((qc_u I 291 64 (I 291 15)) 291 40)) x1) 291 60)) 291 61)) 291 40) 12) <| qc_gd (qc_inb ((qc_u (qc_u (qc_u (qc_u (qc_u I 291 64 (I 291 15)) 318 (Int32.toNatClampNeg ((qc_u I 291 64 (I 291 15)) 291 40)) x1) 319 (Int32.toNatClampNeg ((qc_u (qc_u I 291 64 (I 291 15)) 318 (Int32.toNatClampNeg ((qc_u I 291 64 (I 291 15)) 291 40)) x1) 291 40)) ((qc_u (qc_u I 291 64 (I 291 15)) 318 (Int32.toNatClampNeg ((qc_u I 291 64 (I 291 15)) 291 40)) x1) 291 60)) 320 (Int32.toNatClampNeg ((qc_u (qc_u (qc_u I 291 64 (I 291 15)) 318 (Int32.toNatClampNeg ((qc_u I 291 64 (I 291 15)) 291 40)) x1) 319 (Int32.toNatClampNeg ((qc_u (qc_u I 291 64 (I 291 15)) 318 (Int32.toNatClampNeg ((qc_u I 291 64 (I 291 15)) 291 40)) x1) 291 40)) ((qc_u (qc_u I 291 64 (I 291 15)) 318 (Int32.toNatClampNeg ((qc_u I 291 64 (I 291 15)) 291 40)) x1) 291 60)) 291 40)) ((qc_u (qc_u (qc_u I 291 64 (I 291 15)) 318 (Int32.toNatClampNeg ((qc_u I 291 64 (I 291 15)) 291 40)) x1) 319 (Int32.toNatClampNeg ((qc_u (qc_u I 291 64 (I 291 15)) 318 (Int32.toNatClampNeg ((qc_u I 291 64 (I 291 15)) 291 40)) x1) 291 40)) ((qc_u (qc_u I 291 64 (I 291 15)) 318 (Int32.toNatClampNeg ((qc_u I 291 64 (I 291 15)) 291 40)) x1) 291 60)) 291 61)) 321 (Int32.toNatClampNeg ((qc_u (qc_u (qc_u (qc_u I 291 64 (I 291 15)) 318 (Int32.toNatClampNeg ((qc_u I 291 64 (I 291 15)) 291 40)) x1) 319 (Int32.toNatClampNeg ((qc_u (qc_u I 291 64 (I 291 15)) 318 (Int32.toNatClampNeg ((qc_u I 291 64 (I 291 15)) 291 40)) x1) 291 40)) ((qc_u (qc_u I 291 64 (I 291 15)) 318 (Int32.toNatClampNeg ((qc_u I 291 64 (I 291 15)) 291 40)) x1) 291 60)) 320 (Int32.toNatClampNeg ((qc_u (qc_u (qc_u I 291 64 (I 291 15)) 318 (Int32.toNatClampNeg ((qc_u I 291 64 (I 291 15)) 291 40)) x1) 319 (Int32.toNatClampNeg ((qc_u (qc_u I 291 64 (I 291 15)) 318 (Int32.toNatClampNeg ((qc_u I 291 64 (I 291 15)) 291 40)) x1) 291 40)) ((qc_u (qc_u I 291 64 (I 291 15)) 318 (Int32.toNatClampNeg ((qc_u I 291 64 (I 291 15)) 291 40)) x1) 291 60)) 291 40)) ((qc_u (qc_u (qc_u I 291 64 (I 291 15)) 318 (Int32.toNatClampNeg ((qc_u I 291 64 (I 291 15)) 291 40)) x1) 319 (Int32.toNatClampNeg ((qc_u (qc_u I 291 64 (I 291 15)) 318 (Int32.toNatClampNeg ((qc_u I 291 64 (I 291 15)) 291 40)) x1) 291 40)) ((qc_u (qc_u I 291 64 (I 291 15)) 318 (Int32.toNatClampNeg ((qc_u I 291 64 (I 291 15)) 291 40)) x1) 291 60)) 291 61)) 291 40)) ((qc_u (qc_u (qc_u (qc_u I 291 64 (I 291 15)) 318 (Int32.toNatClampNeg ((qc_u I 291 64 (I 291 15)) 291 40)) x1) 319 (Int32.toNatClampNeg ((qc_u (qc_u I 291 64 (I 291 15)) 318 (Int32.toNatClampNeg ((qc_u I 291 64 (I 291 15)) 291 40)) x1) 291 40)) ((qc_u (qc_u I 291 64 (I 291 15)) 318 (Int32.toNatClampNeg ((qc_u I 291 64 (I 291 15)) 291 40)) x1) 291 60)) 320 (Int32.toNatClampNeg ((qc_u (qc_u (qc_u I 291 64 (I 291 15)) 318 (Int32.toNatClampNeg ((qc_u I 291 64 (I 291 15)) 291 40)) x1) 319 (Int32.toNatClampNeg ((qc_u (qc_u I 291 64 (I 291 15)) 318 (Int32.toNatClampNeg ((qc_u I 291 64 (I 291 15)) 291 40)) x1) 291 40)) ((qc_u (qc_u I 291 64 (I 291 15)) 318 (Int32.toNatClampNeg ((qc_u I 291 64 (I 291 15)) 291 40)) x1) 291 60)) 291 40)) ((qc_u (qc_u (qc_u I 291 64 (I 291 15)) 318 (Int32.toNatClampNeg ((qc_u I 291 64 (I 291 15)) 291 40)) x1) 319 (Int32.toNatClampNeg ((qc_u (qc_u I 291 64 (I 291 15)) 318 (Int32.toNatClampNeg ((qc_u I 291 64 (I 291 15)) 291 40)) x1) 291 40)) ((qc_u (qc_u I 291 64 (I 291 15)) 318 (Int32.toNatClampNeg ((qc_u I 291 64 (I 291 15)) 291 40)) x1) 291 60)) 291 61)) 291 62)) 291 40) 12) <| some ((((qc_u (qc_u (qc_u (qc_u (qc_u (qc_u (qc_u I 291 64 (I 291 15)) 318 (Int32.toNatClampNeg ((qc_u I 291 64 (I 291 15)) 291 40)) x1) 319 (Int32.toNatClampNeg ((qc_u (qc_u I 291 64 (I 291 15)) 318 (Int32.toNatClampNeg ((qc_u I 291 64 (I 291 15)) 291 40)) x1) 291 40)) ((qc_u (qc_u I 291 64 (I 291 15)) 318 (Int32.toNatClampNeg ((qc_u I 291 64 (I 291 15)) 291 40)) x1) 291 60)) 320 (Int32.toNatClampNeg ((qc_u (qc_u (qc_u I 291 64 (I 291 15)) 318 (Int32.toNatClampNeg ((qc_u I 291 64 (I 291 15)) 291 40)) x1) 319 (Int32.toNatClampNeg ((qc_u (qc_u I 291 64 (I 291 15)) 318 (Int32.toNatClampNeg ((qc_u I 291 64 (I 291 15)) 291 40)) x1) 291 40)) ((qc_u (qc_u I 291 64 (I 291 15)) 318 (Int32.toNatClampNeg ((qc_u I 291 64 (I 291 15)) 291 40)) x1) 291 60)) 291 40)) ((qc_u (qc_u (qc_u I 291 64 (I 291 15)) 318 (Int32.toNatClampNeg ((qc_u I 291 64 (I 291 15)) 291 40)) x1) 319 (Int32.toNatClampNeg ((qc_u (qc_u I 291 64 (I 291 15)) 318 (Int32.toNatClampNeg ((qc_u I 291 64 (I 291 15)) 291 40)) x1) 291 40)) ((qc_u (qc_u I 291 64 (I 291 15)) 318 (Int32.toNatClampNeg ((qc_u I 291 64 (I 291 15)) 291 40)) x1) 291 60)) 291 61)) 321 (Int32.toNatClampNeg ((qc_u (qc_u (qc_u (qc_u I 291 64 (I 291 15)) 318 (Int32.toNatClampNeg ((qc_u I 291 64 (I 291 15)) 291 40)) x1) 319 (Int32.toNatClampNeg ((qc_u (qc_u I 291 64 (I 291 15)) 318 (Int32.toNatClampNeg ((qc_u I 291 64 (I 291 15)) 291 40)) x1) 291 40)) ((qc_u (qc_u I 291 64 (I 291 15)) 318 (Int32.toNatClampNeg ((qc_u I 291 64 (I 291 15)) 291 40)) x1) 291 60)) 320 (Int32.toNatClampNeg ((qc_u (qc_u (qc_u I 291 64 (I 291 15)) 318 (Int32.toNatClampNeg ((qc_u I 291 64 (I 291 15)) 291 40)) x1) 319 (Int32.toNatClampNeg ((qc_u (qc_u I 291 64 (I 291 15)) 318 (Int32.toNatClampNeg ((qc_u I 291 64 (I 291 15)) 291 40)) x1) 291 40)) ((qc_u (qc_u I 291 64 (I 291 15)) 318 (Int32.toNatClampNeg ((qc_u I 291 64 (I 291 15)) 291 40)) x1) 291 60)) 291 40)) ((qc_u (qc_u (qc_u I 291 64 (I 291 15)) 318 (Int32.toNatClampNeg ((qc_u I 291 64 (I 291 15)) 291 40)) x1) 319 (Int32.toNatClampNeg ((qc_u (qc_u I 291 64 (I 291 15)) 318 (Int32.toNatClampNeg ((qc_u I 291 64 (I 291 15)) 291 40)) x1) 291 40)) ((qc_u (qc_u I 291 64 (I 291 15)) 318 (Int32.toNatClampNeg ((qc_u I 291 64 (I 291 15)) 291 40)) x1) 291 60)) 291 61)) 291 40)) ((qc_u (qc_u (qc_u (qc_u I 291 64 (I 291 15)) 318 (Int32.toNatClampNeg ((qc_u I 291 64 (I 291 15)) 291 40)) x1) 319 (Int32.toNatClampNeg ((qc_u (qc_u I 291 64 (I 291 15)) 318 (Int32.toNatClampNeg ((qc_u I 291 64 (I 291 15)) 291 40)) x1) 291 40)) ((qc_u (qc_u I 291 64 (I 291 15)) 318 (Int32.toNatClampNeg ((qc_u I 291 64 (I 291 15)) 291 40)) x1) 291 60)) 320 (Int32.toNatClampNeg ((qc_u (qc_u (qc_u I 291 64 (I 291 15)) 318 (Int32.toNatClampNeg ((qc_u I 291 64 (I 291 15)) 291 40)) x1) 319 (Int32.toNatClampNeg ((qc_u (qc_u I 291 64 (I 291 15)) 318 (Int32.toNatClampNeg ((qc_u I 291 64 (I 291 15)) 291 40)) x1) 291 40)) ((qc_u (qc_u I 291 64 (I 291 15)) 318 (Int32.toNatClampNeg ((qc_u I 291 64 (I 291 15)) 291 40)) x1) 291 60)) 291 40)) ((qc_u (qc_u (qc_u I 291 64 (I 291 15)) 318 (Int32.toNatClampNeg ((qc_u I 291 64 (I 291 15)) 291 40)) x1) 319 (Int32.toNatClampNeg ((qc_u (qc_u I 291 64 (I 291 15)) 318 (Int32.toNatClampNeg ((qc_u I 291 64 (I 291 15)) 291 40)) x1) 291 40)) ((qc_u (qc_u I 291 64 (I 291 15)) 318 (Int32.toNatClampNeg ((qc_u I 291 64 (I 291 15)) 291 40)) x1) 291 60)) 291 61)) 291 62)) 323 (Int32.toNatClampNeg ((qc_u (qc_u (qc_u (qc_u (qc_u I 291 64 (I 291 15)) 318 (Int32.toNatClampNeg ((qc_u I 291 64 (I 291 15)) 291 40)) x1) 319 (Int32.toNatClampNeg ((qc_u (qc_u I 291 64 (I 291 15)) 318 (Int32.toNatClampNeg ((qc_u I 291 64 (I 291 15)) 291 40)) x1) 291 40)) ((qc_u (qc_u I 291 64 (I 291 15)) 318 (Int32.toNatClampNeg ((qc_u I 291 64 (I 291 15)) 291 40)) x1) 291 60)) 320 (Int32.toNatClampNeg ((qc_u (qc_u (qc_u I 291 64 (I 291 15)) 318 (Int32.toNatClampNeg ((qc_u I 291 64 (I 291 15)) 291 40)) x1) 319 (Int32.toNatClampNeg ((qc_u (qc_u I 291 64 (I 291 15)) 318 (Int32.toNatClampNeg ((qc_u I 291 64 (I 291 15)) 291 40)) x1) 291 40)) ((qc_u (qc_u I 291 64 (I 291 15)) 318 (Int32.toNatClampNeg ((qc_u I 291 64 (I 291 15)) 291 40)) x1) 291 60)) 291 40)) ((qc_u (qc_u (qc_u I 291 64 (I 291 15)) 318 (Int32.toNatClampNeg ((qc_u I 291 64 (I 291 15)) 291 40)) x1) 319 (Int32.toNatClampNeg ((qc_u (qc_u I 291 64 (I 291 15)) 318 (Int32.toNatClampNeg ((qc_u I 291 64 (I 291 15)) 291 40)) x1) 291 40)) ((qc_u (qc_u I 291 64 (I 291 15)) 318 (Int32.toNatClampNeg ((qc_u I 291 64 (I 291 15)) 291 40)) x1) 291 60)) 291 61)) 321 (Int32.toNatClampNeg ((qc_u (qc_u (qc_u (qc_u I 291 64 (I 291 15)) 318 (Int32.toNatClampNeg ((qc_u I 291 64 (I 291 15)) 291 40)) x1) 319 (Int32.toNatClampNeg ((qc_u (qc_u I 291 64 (I 291 15)) 318 (Int32.toNatClampNeg ((qc_u I 291 64 (I 291 15)) 291 40)) x1) 291 40)) ((qc_u (qc_u I 291 64 (I 291 15)) 318 (Int32.toNatClampNeg ((qc_u I 291 64 (I 291 15)) 291 40)) x1) 291 60)) 320 (Int32.toNatClampNeg ((qc_u (qc_u (qc_u I 291 64 (I 291 15)) 318 (Int32.toNatClampNeg ((qc_u I 291 64 (I 291 15)) 291 40)) x1) 319 (Int32.toNatClampNeg ((qc_u (qc_u I 291 64 (I 291 15)) 318 (Int32.toNatClampNeg ((qc_u I 291 64 (I 291 15)) 291 40)) x1) 291 40)) ((qc_u (qc_u I 291 64 (I 291 15)) 318 (Int32.toNatClampNeg ((qc_u I 291 64 (I 291 15)) 291 40)) x1) 291 60)) 291 40)) ((qc_u (qc_u (qc_u I 291 64 (I 291 15)) 318 (Int32.toNatClampNeg ((qc_u I 291 64 (I 291 15)) 291 40)) x1) 319 (Int32.toNatClampNeg ((qc_u (qc_u I 291 64 (I 291 15)) 318 (Int32.toNatClampNeg ((qc_u I 291 64 (I 291 15)) 291 40)) x1) 291 40)) ((qc_u (qc_u I 291 64 (I 291 15)) 318 (Int32.toNatClampNeg ((qc_u I 291 64 (I 291 15)) 291 40)) x1) 291 60)) 291 61)) 291 40)) ((qc_u (qc_u (qc_u (qc_u I 291 64 (I 291 15)) 318 (Int32.toNatClampNeg ((qc_u I 291 64 (I 291 15)) 291 40)) x1) 319 (Int32.toNatClampNeg ((qc_u (qc_u I 291 64 (I 291 15)) 318 (Int32.toNatClampNeg ((qc_u I 291 64 (I 291 15)) 291 40)) x1) 291 40)) ((qc_u (qc_u I 291 64 (I 291 15)) 318 (Int32.toNatClampNeg ((qc_u I 291 64 (I 291 15)) 291 40)) x1) 291 60)) 320 (Int32.toNatClampNeg ((qc_u (qc_u (qc_u I 291 64 (I 291 15)) 318 (Int32.toNatClampNeg ((qc_u I 291 64 (I 291 15)) 291 40)) x1) 319 (Int32.toNatClampNeg ((qc_u (qc_u I 291 64 (I 291 15)) 318 (Int32.toNatClampNeg ((qc_u I 291 64 (I 291 15)) 291 40)) x1) 291 40)) ((qc_u (qc_u I 291 64 (I 291 15)) 318 (Int32.toNatClampNeg ((qc_u I 291 64 (I 291 15)) 291 40)) x1) 291 60)) 291 40)) ((qc_u (qc_u (qc_u I 291 64 (I 291 15)) 318 (Int32.toNatClampNeg ((qc_u I 291 64 (I 291 15)) 291 40)) x1) 319 (Int32.toNatClampNeg ((qc_u (qc_u I 291 64 (I 291 15)) 318 (Int32.toNatClampNeg ((qc_u I 291 64 (I 291 15)) 291 40)) x1) 291 40)) ((qc_u (qc_u I 291 64 (I 291 15)) 318 (Int32.toNatClampNeg ((qc_u I 291 64 (I 291 15)) 291 40)) x1) 291 60)) 291 61)) 291 62)) 291 40)) ((qc_u (qc_u (qc_u (qc_u (qc_u I 291 64 (I 291 15)) 318 (Int32.toNatClampNeg ((qc_u I 291 64 (I 291 15)) 291 40)) x1) 319 (Int32.toNatClampNeg ((qc_u (qc_u I 291 64 (I 291 15)) 318 (Int32.toNatClampNeg ((qc_u I 291 64 (I 291 15)) 291 40)) x1) 291 40)) ((qc_u (qc_u I 291 64 (I 291 15)) 318 (Int32.toNatClampNeg ((qc_u I 291 64 (I 291 15)) 291 40)) x1) 291 60)) 320 (Int32.toNatClampNeg ((qc_u (qc_u (qc_u I 291 64 (I 291 15)) 318 (Int32.toNatClampNeg ((qc_u I 291 64 (I 291 15)) 291 40)) x1) 319 (Int32.toNatClampNeg ((qc_u (qc_u I 291 64 (I 291 15)) 318 (Int32.toNatClampNeg ((qc_u I 291 64 (I 291 15)) 291 40)) x1) 291 40)) ((qc_u (qc_u I 291 64 (I 291 15)) 318 (Int32.toNatClampNeg ((qc_u I 291 64 (I 291 15)) 291 40)) x1) 291 60)) 291 40)) ((qc_u (qc_u (qc_u I 291 64 (I 291 15)) 318 (Int32.toNatClampNeg ((qc_u I 291 64 (I 291 15)) 291 40)) x1) 319 (Int32.toNatClampNeg ((qc_u (qc_u I 291 64 (I 291 15)) 318 (Int32.toNatClampNeg ((qc_u I 291 64 (I 291 15)) 291 40)) x1) 291 40)) ((qc_u (qc_u I 291 64 (I 291 15)) 318 (Int32.toNatClampNeg ((qc_u I 291 64 (I 291 15)) 291 40)) x1) 291 60)) 291 61)) 321 (Int32.toNatClampNeg ((qc_u (qc_u (qc_u (qc_u I 291 64 (I 291 15)) 318 (Int32.toNatClampNeg ((qc_u I 291 64 (I 291 15)) 291 40)) x1) 319 (Int32.toNatClampNeg ((qc_u (qc_u I 291 64 (I 291 15)) 318 (Int32.toNatClampNeg ((qc_u I 291 64 (I 291 15)) 291 40)) x1) 291 40)) ((qc_u (qc_u I 291 64 (I 291 15)) 318 (Int32.toNatClampNeg ((qc_u I 291 64 (I 291 15)) 291 40)) x1) 291 60)) 320 (Int32.toNatClampNeg ((qc_u (qc_u (qc_u I 291 64 (I 291 15)) 318 (Int32.toNatClampNeg ((qc_u I 291 64 (I 291 15)) 291 40)) x1) 319 (Int32.toNatClampNeg ((qc_u (qc_u I 291 64 (I 291 15)) 318 (Int32.toNatClampNeg ((qc_u I 291 64 (I 291 15)) 291 40)) x1) 291 40)) ((qc_u (qc_u I 291 64 (I 291 15)) 318 (Int32.toNatClampNeg ((qc_u I 291 64 (I 291 15)) 291 40)) x1) 291 60)) 291 40)) ((qc_u (qc_u (qc_u I 291 64 (I 291 15)) 318 (Int32.toNatClampNeg ((qc_u I 291 64 (I 291 15)) 291 40)) x1) 319 (Int32.toNatClampNeg ((qc_u (qc_u I 291 64 (I 291 15)) 318 (Int32.toNatClampNeg ((qc_u I 291 64 (I 291 15)) 291 40)) x1) 291 40)) ((qc_u (qc_u I 291 64 (I 291 15)) 318 (Int32.toNatClampNeg ((qc_u I 291 64 (I 291 15)) 291 40)) x1) 291 60)) 291 61)) 291 40)) ((qc_u (qc_u (qc_u (qc_u I 291 64 (I 291 15)) 318 (Int32.toNatClampNeg ((qc_u I 291 64 (I 291 15)) 291 40)) x1) 319 (Int32.toNatClampNeg ((qc_u (qc_u I 291 64 (I 291 15)) 318 (Int32.toNatClampNeg ((qc_u I 291 64 (I 291 15)) 291 40)) x1) 291 40)) ((qc_u (qc_u I 291 64 (I 291 15)) 318 (Int32.toNatClampNeg ((qc_u I 291 64 (I 291 15)) 291 40)) x1) 291 60)) 320 (Int32.toNatClampNeg ((qc_u (qc_u (qc_u I 291 64 (I 291 15)) 318 (Int32.toNatClampNeg ((qc_u I 291 64 (I 291 15)) 291 40)) x1) 319 (Int32.toNatClampNeg ((qc_u (qc_u I 291 64 (I 291 15)) 318 (Int32.toNatClampNeg ((qc_u I 291 64 (I 291 15)) 291 40)) x1) 291 40)) ((qc_u (qc_u I 291 64 (I 291 15)) 318 (Int32.toNatClampNeg ((qc_u I 291 64 (I 291 15)) 291 40)) x1) 291 60)) 291 40)) ((qc_u (qc_u (qc_u I 291 64 (I 291 15)) 318 (Int32.toNatClampNeg ((qc_u I 291 64 (I 291 15)) 291 40)) x1) 319 (Int32.toNatClampNeg ((qc_u (qc_u I 291 64 (I 291 15)) 318 (Int32.toNatClampNeg ((qc_u I 291 64 (I 291 15)) 291 40)) x1) 291 40)) ((qc_u (qc_u I 291 64 (I 291 15)) 318 (Int32.toNatClampNeg ((qc_u I 291 64 (I 291 15)) 291 40)) x1) 291 60)) 291 61)) 291 62)) 291 63)) 291 40 (((qc_u (qc_u (qc_u (qc_u (qc_u (qc_u I 291 64 (I 291 15)) 318 (Int32.toNatClampNeg ((qc_u I 291 64 (I 291 15)) 291 40)) x1) 319 (Int32.toNatClampNeg ((qc_u (qc_u I 291 64 (I 291 15)) 318 (Int32.toNatClampNeg ((qc_u I 291 64 (I 291 15)) 291 40)) x1) 291 40)) ((qc_u (qc_u I 291 64 (I 291 15)) 318 (Int32.toNatClampNeg ((qc_u I 291 64 (I 291 15)) 291 40)) x1) 291 60)) 320 (Int32.toNatClampNeg ((qc_u (qc_u (qc_u I 291 64 (I 291 15)) 318 (Int32.toNatClampNeg ((qc_u I 291 64 (I 291 15)) 291 40)) x1) 319 (Int32.toNatClampNeg ((qc_u (qc_u I 291 64 (I 291 15)) 318 (Int32.toNatClampNeg ((qc_u I 291 64 (I 291 15)) 291 40)) x1) 291 40)) ((qc_u (qc_u I 291 64 (I 291 15)) 318 (Int32.toNatClampNeg ((qc_u I 291 64 (I 291 15)) 291 40)) x1) 291 60)) 291 40)) ((qc_u (qc_u (qc_u I 291 64 (I 291 15)) 318 (Int32.toNatClampNeg ((qc_u I 291 64 (I 291 15)) 291 40)) x1) 319 (Int32.toNatClampNeg ((qc_u (qc_u I 291 64 (I 291 15)) 318 (Int32.toNatClampNeg ((qc_u I 291 64 (I 291 15)) 291 40)) x1) 291 40)) ((qc_u (qc_u I 291 64 (I 291 15)) 318 (Int32.toNatClampNeg ((qc_u I 291 64 (I 291 15)) 291 40)) x1) 291 60)) 291 61)) 321 (Int32.toNatClampNeg ((qc_u (qc_u (qc_u (qc_u I 291 64 (I 291 15)) 318 (Int32.toNatClampNeg ((qc_u I 291 64 (I 291 15)) 291 40)) x1) 319 (Int32.toNatClampNeg ((qc_u (qc_u I 291 64 (I 291 15)) 318 (Int32.toNatClampNeg ((qc_u I 291 64 (I 291 15)) 291 40)) x1) 291 40)) ((qc_u (qc_u I 291 64 (I 291 15)) 318 (Int32.toNatClampNeg ((qc_u I 291 64 (I 291 15)) 291 40)) x1) 291 60)) 320 (Int32.toNatClampNeg ((qc_u (qc_u (qc_u I 291 64 (I 291 15)) 318 (Int32.toNatClampNeg ((qc_u I 291 64 (I 291 15)) 291 40)) x1) 319 (Int32.toNatClampNeg ((qc_u (qc_u I 291 64 (I 291 15)) 318 (Int32.toNatClampNeg ((qc_u I 291 64 (I 291 15)) 291 40)) x1) 291 40)) ((qc_u (qc_u I 291 64 (I 291 15)) 318 (Int32.toNatClampNeg ((qc_u I 291 64 (I 291 15)) 291 40)) x1) 291 60)) 291 40)) ((qc_u (qc_u (qc_u I 291 64 (I 291 15)) 318 (Int32.toNatClampNeg ((qc_u I 291 64 (I 291 15)) 291 40)) x1) 319 (Int32.toNatClampNeg ((qc_u (qc_u I 291 64 (I 291 15)) 318 (Int32.toNatClampNeg ((qc_u I 291 64 (I 291 15)) 291 40)) x1) 291 40)) ((qc_u (qc_u I 291 64 (I 291 15)) 318 (Int32.toNatClampNeg ((qc_u I 291 64 (I 291 15)) 291 40)) x1) 291 60)) 291 61)) 291 40)) ((qc_u (qc_u (qc_u (qc_u I 291 64 (I 291 15)) 318 (Int32.toNatClampNeg ((qc_u I 291 64 (I 291 15)) 291 40)) x1) 319 (Int32.toNatClampNeg ((qc_u (qc_u I 291 64 (I 291 15)) 318 (Int32.toNatClampNeg ((qc_u I 291 64 (I 291 15)) 291 40)) x1) 291 40)) ((qc_u (qc_u I 291 64 (I 291 15)) 318 (Int32.toNatClampNeg ((qc_u I 291 64 (I 291 15)) 291 40)) x1) 291 60)) 320 (Int32.toNatClampNeg ((qc_u (qc_u (qc_u I 291 64 (I 291 15)) 318 (Int32.toNatClampNeg ((qc_u I 291 64 (I 291 15)) 291 40)) x1) 319 (Int32.toNatClampNeg ((qc_u (qc_u I 291 64 (I 291 15)) 318 (Int32.toNatClampNeg ((qc_u I 291 64 (I 291 15)) 291 40)) x1) 291 40)) ((qc_u (qc_u I 291 64 (I 291 15)) 318 (Int32.toNatClampNeg ((qc_u I 291 64 (I 291 15)) 291 40)) x1) 291 60)) 291 40)) ((qc_u (qc_u (qc_u I 291 64 (I 291 15)) 318 (Int32.toNatClampNeg ((qc_u I 291 64 (I 291 15)) 291 40)) x1) 319 (Int32.toNatClampNeg ((qc_u (qc_u I 291 64 (I 291 15)) 318 (Int32.toNatClampNeg ((qc_u I 291 64 (I 291 15)) 291 40)) x1) 291 40)) ((qc_u (qc_u I 291 64 (I 291 15)) 318 (Int32.toNatClampNeg ((qc_u I 291 64 (I 291 15)) 291 40)) x1) 291 60)) 291 61)) 291 62)) 323 (Int32.toNatClampNeg ((qc_u (qc_u (qc_u (qc_u (qc_u I 291 64 (I 291 15)) 318 (Int32.toNatClampNeg ((qc_u I 291 64 (I 291 15)) 291 40)) x1) 319 (Int32.toNatClampNeg ((qc_u (qc_u I 291 64 (I 291 15)) 318 (Int32.toNatClampNeg ((qc_u I 291 64 (I 291 15)) 291 40)) x1) 291 40)) ((qc_u (qc_u I 291 64 (I 291 15)) 318 (Int32.toNatClampNeg ((qc_u I 291 64 (I 291 15)) 291 40)) x1) 291 60)) 320 (Int32.toNatClampNeg ((qc_u (qc_u (qc_u I 291 64 (I 291 15)) 318 (Int32.toNatClampNeg ((qc_u I 291 64 (I 291 15)) 291 40)) x1) 319 (Int32.toNatClampNeg ((qc_u (qc_u I 291 64 (I 291 15)) 318 (Int32.toNatClampNeg ((qc_u I 291 64 (I 291 15)) 291 40)) x1) 291 40)) ((qc_u (qc_u I 291 64 (I 291 15)) 318 (Int32.toNatClampNeg ((qc_u I 291 64 (I 291 15)) 291 40)) x1) 291 60)) 291 40)) ((qc_u (qc_u (qc_u I 291 64 (I 291 15)) 318 (Int32.toNatClampNeg ((qc_u I 291 64 (I 291 15)) 291 40)) x1) 319 (Int32.toNatClampNeg ((qc_u (qc_u I 291 64 (I 291 15)) 318 (Int32.toNatClampNeg ((qc_u I 291 64 (I 291 15)) 291 40)) x1) 291 40)) ((qc_u (qc_u I 291 64 (I 291 15)) 318 (Int32.toNatClampNeg ((qc_u I 291 64 (I 291 15)) 291 40)) x1) 291 60)) 291 61)) 321 (Int32.toNatClampNeg ((qc_u (qc_u (qc_u (qc_u I 291 64 (I 291 15)) 318 (Int32.toNatClampNeg ((qc_u I 291 64 (I 291 15)) 291 40)) x1) 319 (Int32.toNatClampNeg ((qc_u (qc_u I 291 64 (I 291 15)) 318 (Int32.toNatClampNeg ((qc_u I 291 64 (I 291 15)) 291 40)) x1) 291 40)) ((qc_u (qc_u I 291 64 (I 291 15)) 318 (Int32.toNatClampNeg ((qc_u I 291 64 (I 291 15)) 291 40)) x1) 291 60)) 320 (Int32.toNatClampNeg ((qc_u (qc_u (qc_u I 291 64 (I 291 15)) 318 (Int32.toNatClampNeg ((qc_u I 291 64 (I 291 15)) 291 40)) x1) 319 (Int32.toNatClampNeg ((qc_u (qc_u I 291 64 (I 291 15)) 318 (Int32.toNatClampNeg ((qc_u I 291 64 (I 291 15)) 291 40)) x1) 291 40)) ((qc_u (qc_u I 291 64 (I 291 15)) 318 (Int32.toNatClampNeg ((qc_u I 291 64 (I 291 15)) 291 40)) x1) 291 60)) 291 40)) ((qc_u (qc_u (qc_u I 291 64 (I 291 15)) 318 (Int32.toNatClampNeg ((qc_u I 291 64 (I 291 15)) 291 40)) x1) 319 (Int32.toNatClampNeg ((qc_u (qc_u I 291 64 (I 291 15)) 318 (Int32.toNatClampNeg ((qc_u I 291 64 (I 291 15)) 291 40)) x1) 291 40)) ((qc_u (qc_u I 291 64 (I 291 15)) 318 (Int32.toNatClampNeg ((qc_u I 291 64 (I 291 15)) 291 40)) x1) 291 60)) 291 61)) 291 40)) ((qc_u (qc_u (qc_u (qc_u I 291 64 (I 291 15)) 318 (Int32.toNatClampNeg ((qc_u I 291 64 (I 291 15)) 291 40)) x1) 319 (Int32.toNatClampNeg ((qc_u (qc_u I 291 64 (I 291 15)) 318 (Int32.toNatClampNeg ((qc_u I 291 64 (I 291 15)) 291 40)) x1) 291 40)) ((qc_u (qc_u I 291 64 (I 291 15)) 318 (Int32.toNatClampNeg ((qc_u I 291 64 (I 291 15)) 291 40)) x1) 291 60)) 320 (Int32.toNatClampNeg ((qc_u (qc_u (qc_u I 291 64 (I 291 15)) 318 (Int32.toNatClampNeg ((qc_u I 291 64 (I 291 15)) 291 40)) x1) 319 (Int32.toNatClampNeg ((qc_u (qc_u I 291 64 (I 291 15)) 318 (Int32.toNatClampNeg ((qc_u I 291 64 (I 291 15)) 291 40)) x1) 291 40)) ((qc_u (qc_u I 291 64 (I 291 15)) 318 (Int32.toNatClampNeg ((qc_u I 291 64 (I 291 15)) 291 40)) x1) 291 60)) 291 40)) ((qc_u (qc_u (qc_u I 291 64 (I 291 15)) 318 (Int32.toNatClampNeg ((qc_u I 291 64 (I 291 15)) 291 40)) x1) 319 (Int32.toNatClampNeg ((qc_u (qc_u I 291 64 (I 291 15)) 318 (Int32.toNatClampNeg ((qc_u I 291 64 (I 291 15)) 291 40)) x1) 291 40)) ((qc_u (qc_u I 291 64 (I 291 15)) 318 (Int32.toNatClampNeg ((qc_u I 291 64 (I 291 15)) 291 40)) x1) 291 60)) 291 61)) 291 62)) 291 40)) ((qc_u (qc_u (qc_u (qc_u (qc_u I 291 64 (I 291 15)) 318 (Int32.toNatClampNeg ((qc_u I 291 64 (I 291 15)) 291 40)) x1) 319 (Int32.toNatClampNeg ((qc_u (qc_u I 291 64 (I 291 15)) 318 (Int32.toNatClampNeg ((qc_u I 291 64 (I 291 15)) 291 40)) x1) 291 40)) ((qc_u (qc_u I 291 64 (I 291 15)) 318 (Int32.toNatClampNeg ((qc_u I 291 64 (I 291 15)) 291 40)) x1) 291 60)) 320 (Int32.toNatClampNeg ((qc_u (qc_u (qc_u I 291 64 (I 291 15)) 318 (Int32.toNatClampNeg ((qc_u I 291 64 (I 291 15)) 291 40)) x1) 319 (Int32.toNatClampNeg ((qc_u (qc_u I 291 64 (I 291 15)) 318 (Int32.toNatClampNeg ((qc_u I 291 64 (I 291 15)) 291 40)) x1) 291 40)) ((qc_u (qc_u I 291 64 (I 291 15)) 318 (Int32.toNatClampNeg ((qc_u I 291 64 (I 291 15)) 291 40)) x1) 291 60)) 291 40)) ((qc_u (qc_u (qc_u I 291 64 (I 291 15)) 318 (Int32.toNatClampNeg ((qc_u I 291 64 (I 291 15)) 291 40)) x1) 319 (Int32.toNatClampNeg ((qc_u (qc_u I 291 64 (I 291 15)) 318 (Int32.toNatClampNeg ((qc_u I 291 64 (I 291 15)) 291 40)) x1) 291 40)) ((qc_u (qc_u I 291 64 (I 291 15)) 318 (Int32.toNatClampNeg ((qc_u I 291 64 (I 291 15)) 291 40)) x1) 291 60)) 291 61)) 321 (Int32.toNatClampNeg ((qc_u (qc_u (qc_u (qc_u I 291 64 (I 291 15)) 318 (Int32.toNatClampNeg ((qc_u I 291 64 (I 291 15)) 291 40)) x1) 319 (Int32.toNatClampNeg ((qc_u (qc_u I 291 64 (I 291 15)) 318 (Int32.toNatClampNeg ((qc_u I 291 64 (I 291 15)) 291 40)) x1) 291 40)) ((qc_u (qc_u I 291 64 (I 291 15)) 318 (Int32.toNatClampNeg ((qc_u I 291 64 (I 291 15)) 291 40)) x1) 291 60)) 320 (Int32.toNatClampNeg ((qc_u (qc_u (qc_u I 291 64 (I 291 15)) 318 (Int32.toNatClampNeg ((qc_u I 291 64 (I 291 15)) 291 40)) x1) 319 (Int32.toNatClampNeg ((qc_u (qc_u I 291 64 (I 291 15)) 318 (Int32.toNatClampNeg ((qc_u I 291 64 (I 291 15)) 291 40)) x1) 291 40)) ((qc_u (qc_u I 291 64 (I 291 15)) 318 (Int32.toNatClampNeg ((qc_u I 291 64 (I 291 15)) 291 40)) x1) 291 60)) 291 40)) ((qc_u (qc_u (qc_u I 291 64 (I 291 15)) 318 (Int32.toNatClampNeg ((qc_u I 291 64 (I 291 15)) 291 40)) x1) 319 (Int32.toNatClampNeg ((qc_u (qc_u I 291 64 (I 291 15)) 318 (Int32.toNatClampNeg ((qc_u I 291 64 (I 291 15)) 291 40)) x1) 291 40)) ((qc_u (qc_u I 291 64 (I 291 15)) 318 (Int32.toNatClampNeg ((qc_u I 291 64 (I 291 15)) 291 40)) x1) 291 60)) 291 61)) 291 40)) ((qc_u (qc_u (qc_u (qc_u I 291 64 (I 291 15)) 318 (Int32.toNatClampNeg ((qc_u I 291 64 (I 291 15)) 291 40)) x1) 319 (Int32.toNatClampNeg ((qc_u (qc_u I 291 64 (I 291 15)) 318 (Int32.toNatClampNeg ((qc_u I 291 64 (I 291 15)) 291 40)) x1) 291 40)) ((qc_u (qc_u I 291 64 (I 291 15)) 318 (Int32.toNatClampNeg ((qc_u I 291 64 (I 291 15)) 291 40)) x1) 291 60)) 320 (Int32.toNatClampNeg ((qc_u (qc_u (qc_u I 291 64 (I 291 15)) 318 (Int32.toNatClampNeg ((qc_u I 291 64 (I 291 15)) 291 40)) x1) 319 (Int32.toNatClampNeg ((qc_u (qc_u I 291 64 (I 291 15)) 318 (Int32.toNatClampNeg ((qc_u I 291 64 (I 291 15)) 291 40)) x1) 291 40)) ((qc_u (qc_u I 291 64 (I 291 15)) 318 (Int32.toNatClampNeg ((qc_u I 291 64 (I 291 15)) 291 40)) x1) 291 60)) 291 40)) ((qc_u (qc_u (qc_u I 291 64 (I 291 15)) 318 (Int32.toNatClampNeg ((qc_u I 291 64 (I 291 15)) 291 40)) x1) 319 (Int32.toNatClampNeg ((qc_u (qc_u I 291 64 (I 291 15)) 318 (Int32.toNatClampNeg ((qc_u I 291 64 (I 291 15)) 291 40)) x1) 291 40)) ((qc_u (qc_u I 291 64 (I 291 15)) 318 (Int32.toNatClampNeg ((qc_u I 291 64 (I 291 15)) 291 40)) x1) 291 60)) 291 61)) 291 62)) 291 63)) 291 40) + (1 : Int32))) 291 40) - (1 : Int32)), (qc_u (qc_u (qc_u (qc_u (qc_u (qc_u (qc_u I 291 64 (I 291 15)) 318 (Int32.toNatClampNeg ((qc_u I 291 64 (I 291 15)) 291 40)) x1) 319 (Int32.toNatClampNeg ((qc_u (qc_u I 291 64 (I 291 15)) 318 (Int32.toNatClampNeg ((qc_u I 291 64 (I 291 15)) 291 40)) x1) 291 40)) ((qc_u (qc_u I 291 64 (I 291 15)) 318 (Int32.toNatClampNeg ((qc_u I 291 64 (I 291 15)) 291 40)) x1) 291 60)) 320 (Int32.toNatClampNeg ((qc_u (qc_u (qc_u I 291 64 (I 291 15)) 318 (Int32.toNatClampNeg ((qc_u I 291 64 (I 291 15)) 291 40)) x1) 319 (Int32.toNatClampNeg ((qc_u (qc_u I 291 64 (I 291 15)) 318 (Int32.toNatClampNeg ((qc_u I 291 64 (I 291 15)) 291 40)) x1) 291 40)) ((qc_u (qc_u I 291 64 (I 291 15)) 318 (Int32.toNatClampNeg ((qc_u I 291 64 (I 291 15)) 291 40)) x1) 291 60)) 291 40)) ((qc_u (qc_u (qc_u I 291 64 (I 291 15)) 318 (Int32.toNatClampNeg ((qc_u I 291 64 (I 291 15)) 291 40)) x1) 319 (Int32.toNatClampNeg ((qc_u (qc_u I 291 64 (I 291 15)) 318 (Int32.toNatClampNeg ((qc_u I 291 64 (I 291 15)) 291 40)) x1) 291 40)) ((qc_u (qc_u I 291 64 (I 291 15)) 318 (Int32.toNatClampNeg ((qc_u I 291 64 (I 291 15)) 291 40)) x1) 291 60)) 291 61)) 321 (Int32.toNatClampNeg ((qc_u (qc_u (qc_u (qc_u I 291 64 (I 291 15)) 318 (Int32.toNatClampNeg ((qc_u I 291 64 (I 291 15)) 291 40)) x1) 319 (Int32.toNatClampNeg ((qc_u (qc_u I 291 64 (I 291 15)) 318 (Int32.toNatClampNeg ((qc_u I 291 64 (I 291 15)) 291 40)) x1) 291 40)) ((qc_u (qc_u I 291 64 (I 291 15)) 318 (Int32.toNatClampNeg ((qc_u I 291 64 (I 291 15)) 291 40)) x1) 291 60)) 320 (Int32.toNatClampNeg ((qc_u (qc_u (qc_u I 291 64 (I 291 15)) 318 (Int32.toNatClampNeg ((qc_u I 291 64 (I 291 15)) 291 40)) x1) 319 (Int32.toNatClampNeg ((qc_u (qc_u I 291 64 (I 291 15)) 318 (Int32.toNatClampNeg ((qc_u I 291 64 (I 291 15)) 291 40)) x1) 291 40)) ((qc_u (qc_u I 291 64 (I 291 15)) 318 (Int32.toNatClampNeg ((qc_u I 291 64 (I 291 15)) 291 40)) x1) 291 60)) 291 40)) ((qc_u (qc_u (qc_u I 291 64 (I 291 15)) 318 (Int32.toNatClampNeg ((qc_u I 291 64 (I 291 15)) 291 40)) x1) 319 (Int32.toNatClampNeg ((qc_u (qc_u I 291 64 (I 291 15)) 318 (Int32.toNatClampNeg ((qc_u I 291 64 (I 291 15)) 291 40)) x1) 291 40)) ((qc_u (qc_u I 291 64 (I 291 15)) 318 (Int32.toNatClampNeg ((qc_u I 291 64 (I 291 15)) 291 40)) x1) 291 60)) 291 61)) 291 40)) ((qc_u (qc_u (qc_u (qc_u I 291 64 (I 291 15)) 318 (Int32.toNatClampNeg ((qc_u I 291 64 (I 291 15)) 291 40)) x1) 319 (Int32.toNatClampNeg ((qc_u (qc_u I 291 64 (I 291 15)) 318 (Int32.toNatClampNeg ((qc_u I 291 64 (I 291 15)) 291 40)) x1) 291 40)) ((qc_u (qc_u I 291 64 (I 291 15)) 318 (Int32.toNatClampNeg ((qc_u I 291 64 (I 291 15)) 291 40)) x1) 291 60)) 320 (Int32.toNatClampNeg ((qc_u (qc_u (qc_u I 291 64 (I 291 15)) 318 (Int32.toNatClampNeg ((qc_u I 291 64 (I 291 15)) 291 40)) x1) 319 (Int32.toNatClampNeg ((qc_u (qc_u I 291 64 (I 291 15)) 318 (Int32.toNatClampNeg ((qc_u I 291 64 (I 291 15)) 291 40)) x1) 291 40)) ((qc_u (qc_u I 291 64 (I 291 15)) 318 (Int32.toNatClampNeg ((qc_u I 291 64 (I 291 15)) 291 40)) x1) 291 60)) 291 40)) ((qc_u (qc_u (qc_u I 291 64 (I 291 15)) 318 (Int32.toNatClampNeg ((qc_u I 291 64 (I 291 15)) 291 40)) x1) 319 (Int32.toNatClampNeg ((qc_u (qc_u I 291 64 (I 291 15)) 318 (Int32.toNatClampNeg ((qc_u I 291 64 (I 291 15)) 291 40)) x1) 291 40)) ((qc_u (qc_u I 291 64 (I 291 15)) 318 (Int32.toNatClampNeg ((qc_u I 291 64 (I 291 15)) 291 40)) x1) 291 60)) 291 61)) 291 62)) 323 (Int32.toNatClampNeg ((qc_u (qc_u (qc_u (qc_u (qc_u I 291 64 (I 291 15)) 318 (Int32.toNatClampNeg ((qc_u I 291 64 (I 291 15)) 291 40)) x1) 319 (Int32.toNatClampNeg ((qc_u (qc_u I 291 64 (I 291 15)) 318 (Int32.toNatClampNeg ((qc_u I 291 64 (I 291 15)) 291 40)) x1) 291 40)) ((qc_u (qc_u I 291 64 (I 291 15)) 318 (Int32.toNatClampNeg ((qc_u I 291 64 (I 291 15)) 291 40)) x1) 291 60)) 320 (Int32.toNatClampNeg ((qc_u (qc_u (qc_u I 291 64 (I 291 15)) 318 (Int32.toNatClampNeg ((qc_u I 291 64 (I 291 15)) 291 40)) x1) 319 (Int32.toNatClampNeg ((qc_u (qc_u I 291 64 (I 291 15)) 318 (Int32.toNatClampNeg ((qc_u I 291 64 (I 291 15)) 291 40)) x1) 291 40)) ((qc_u (qc_u I 291 64 (I 291 15)) 318 (Int32.toNatClampNeg ((qc_u I 291 64 (I 291 15)) 291 40)) x1) 291 60)) 291 40)) ((qc_u (qc_u (qc_u I 291 64 (I 291 15)) 318 (Int32.toNatClampNeg ((qc_u I 291 64 (I 291 15)) 291 40)) x1) 319 (Int32.toNatClampNeg ((qc_u (qc_u I 291 64 (I 291 15)) 318 (Int32.toNatClampNeg ((qc_u I 291 64 (I 291 15)) 291 40)) x1) 291 40)) ((qc_u (qc_u I 291 64 (I 291 15)) 318 (Int32.toNatClampNeg ((qc_u I 291 64 (I 291 15)) 291 40)) x1) 291 60)) 291 61)) 321 (Int32.toNatClampNeg ((qc_u (qc_u (qc_u (qc_u I 291 64 (I 291 15)) 318 (Int32.toNatClampNeg ((qc_u I 291 64 (I 291 15)) 291 40)) x1) 319 (Int32.toNatClampNeg ((qc_u (qc_u I 291 64 (I 291 15)) 318 (Int32.toNatClampNeg ((qc_u I 291 64 (I 291 15)) 291 40)) x1) 291 40)) ((qc_u (qc_u I 291 64 (I 291 15)) 318 (Int32.toNatClampNeg ((qc_u I 291 64 (I 291 15)) 291 40)) x1) 291 60)) 320 (Int32.toNatClampNeg ((qc_u (qc_u (qc_u I 291 64 (I 291 15)) 318 (Int32.toNatClampNeg ((qc_u I 291 64 (I 291 15)) 291 40)) x1) 319 (Int32.toNatClampNeg ((qc_u (qc_u I 291 64 (I 291 15)) 318 (Int32.toNatClampNeg ((qc_u I 291 64 (I 291 15)) 291 40)) x1) 291 40)) ((qc_u (qc_u I 291 64 (I 291 15)) 318 (Int32.toNatClampNeg ((qc_u I 291 64 (I 291 15)) 291 40)) x1) 291 60)) 291 40)) ((qc_u (qc_u (qc_u I 291 64 (I 291 15)) 318 (Int32.toNatClampNeg ((qc_u I 291 64 (I 291 15)) 291 40)) x1) 319 (Int32.toNatClampNeg ((qc_u (qc_u I 291 64 (I 291 15)) 318 (Int32.toNatClampNeg ((qc_u I 291 64 (I 291 15)) 291 40)) x1) 291 40)) ((qc_u (qc_u I 291 64 (I 291 15)) 318 (Int32.toNatClampNeg ((qc_u I 291 64 (I 291 15)) 291 40)) x1) 291 60)) 291 61)) 291 40)) ((qc_u (qc_u (qc_u (qc_u I 291 64 (I 291 15)) 318 (Int32.toNatClampNeg ((qc_u I 291 64 (I 291 15)) 291 40)) x1) 319 (Int32.toNatClampNeg ((qc_u (qc_u I 291 64 (I 291 15)) 318 (Int32.toNatClampNeg ((qc_u I 291 64 (I 291 15)) 291 40)) x1) 291 40)) ((qc_u (qc_u I 291 64 (I 291 15)) 318 (Int32.toNatClampNeg ((qc_u I 291 64 (I 291 15)) 291 40)) x1) 291 60)) 320 (Int32.toNatClampNeg ((qc_u (qc_u (qc_u I 291 64 (I 291 15)) 318 (Int32.toNatClampNeg ((qc_u I 291 64 (I 291 15)) 291 40)) x1) 319 (Int32.toNatClampNeg ((qc_u (qc_u I 291 64 (I 291 15)) 318 (Int32.toNatClampNeg ((qc_u I 291 64 (I 291 15)) 291 40)) x1) 291 40)) ((qc_u (qc_u I 291 64 (I 291 15)) 318 (Int32.toNatClampNeg ((qc_u I 291 64 (I 291 15)) 291 40)) x1) 291 60)) 291 40)) ((qc_u (qc_u (qc_u I 291 64 (I 291 15)) 318 (Int32.toNatClampNeg ((qc_u I 291 64 (I 291 15)) 291 40)) x1) 319 (Int32.toNatClampNeg ((qc_u (qc_u I 291 64 (I 291 15)) 318 (Int32.toNatClampNeg ((qc_u I 291 64 (I 291 15)) 291 40)) x1) 291 40)) ((qc_u (qc_u I 291 64 (I 291 15)) 318 (Int32.toNatClampNeg ((qc_u I 291 64 (I 291 15)) 291 40)) x1) 291 60)) 291 61)) 291 62)) 291 40)) ((qc_u (qc_u (qc_u (qc_u (qc_u I 291 64 (I 291 15)) 318 (Int32.toNatClampNeg ((qc_u I 291 64 (I 291 15)) 291 40)) x1) 319 (Int32.toNatClampNeg ((qc_u (qc_u I 291 64 (I 291 15)) 318 (Int32.toNatClampNeg ((qc_u I 291 64 (I 291 15)) 291 40)) x1) 291 40)) ((qc_u (qc_u I 291 64 (I 291 15)) 318 (Int32.toNatClampNeg ((qc_u I 291 64 (I 291 15)) 291 40)) x1) 291 60)) 320 (Int32.toNatClampNeg ((qc_u (qc_u (qc_u I 291 64 (I 291 15)) 318 (Int32.toNatClampNeg ((qc_u I 291 64 (I 291 15)) 291 40)) x1) 319 (Int32.toNatClampNeg ((qc_u (qc_u I 291 64 (I 291 15)) 318 (Int32.toNatClampNeg ((qc_u I 291 64 (I 291 15)) 291 40)) x1) 291 40)) ((qc_u (qc_u I 291 64 (I 291 15)) 318 (Int32.toNatClampNeg ((qc_u I 291 64 (I 291 15)) 291 40)) x1) 291 60)) 291 40)) ((qc_u (qc_u (qc_u I 291 64 (I 291 15)) 318 (Int32.toNatClampNeg ((qc_u I 291 64 (I 291 15)) 291 40)) x1) 319 (Int32.toNatClampNeg ((qc_u (qc_u I 291 64 (I 291 15)) 318 (Int32.toNatClampNeg ((qc_u I 291 64 (I 291 15)) 291 40)) x1) 291 40)) ((qc_u (qc_u I 291 64 (I 291 15)) 318 (Int32.toNatClampNeg ((qc_u I 291 64 (I 291 15)) 291 40)) x1) 291 60)) 291 61)) 321 (Int32.toNatClampNeg ((qc_u (qc_u (qc_u (qc_u I 291 64 (I 291 15)) 318 (Int32.toNatClampNeg ((qc_u I 291 64 (I 291 15)) 291 40)) x1) 319 (Int32.toNatClampNeg ((qc_u (qc_u I 291 64 (I 291 15)) 318 (Int32.toNatClampNeg ((qc_u I 291 64 (I 291 15)) 291 40)) x1) 291 40)) ((qc_u (qc_u I 291 64 (I 291 15)) 318 (Int32.toNatClampNeg ((qc_u I 291 64 (I 291 15)) 291 40)) x1) 291 60)) 320 (Int32.toNatClampNeg ((qc_u (qc_u (qc_u I 291 64 (I 291 15)) 318 (Int32.toNatClampNeg ((qc_u I 291 64 (I 291 15)) 291 40)) x1) 319 (Int32.toNatClampNeg ((qc_u (qc_u I 291 64 (I 291 15)) 318 (Int32.toNatClampNeg ((qc_u I 291 64 (I 291 15)) 291 40)) x1) 291 40)) ((qc_u (qc_u I 291 64 (I 291 15)) 318 (Int32.toNatClampNeg ((qc_u I 291 64 (I 291 15)) 291 40)) x1) 291 60)) 291 40)) ((qc_u (qc_u (qc_u I 291 64 (I 291 15)) 318 (Int32.toNatClampNeg ((qc_u I 291 64 (I 291 15)) 291 40)) x1) 319 (Int32.toNatClampNeg ((qc_u (qc_u I 291 64 (I 291 15)) 318 (Int32.toNatClampNeg ((qc_u I 291 64 (I 291 15)) 291 40)) x1) 291 40)) ((qc_u (qc_u I 291 64 (I 291 15)) 318 (Int32.toNatClampNeg ((qc_u I 291 64 (I 291 15)) 291 40)) x1) 291 60)) 291 61)) 291 40)) ((qc_u (qc_u (qc_u (qc_u I 291 64 (I 291 15)) 318 (Int32.toNatClampNeg ((qc_u I 291 64 (I 291 15)) 291 40)) x1) 319 (Int32.toNatClampNeg ((qc_u (qc_u I 291 64 (I 291 15)) 318 (Int32.toNatClampNeg ((qc_u I 291 64 (I 291 15)) 291 40)) x1) 291 40)) ((qc_u (qc_u I 291 64 (I 291 15)) 318 (Int32.toNatClampNeg ((qc_u I 291 64 (I 291 15)) 291 40)) x1) 291 60)) 320 (Int32.toNatClampNeg ((qc_u (qc_u (qc_u I 291 64 (I 291 15)) 318 (Int32.toNatClampNeg ((qc_u I 291 64 (I 291 15)) 291 40)) x1) 319 (Int32.toNatClampNeg ((qc_u (qc_u I 291 64 (I 291 15)) 318 (Int32.toNatClampNeg ((qc_u I 291 64 (I 291 15)) 291 40)) x1) 291 40)) ((qc_u (qc_u I 291 64 (I 291 15)) 318 (Int32.toNatClampNeg ((qc_u I 291 64 (I 291 15)) 291 40)) x1) 291 60)) 291 40)) ((qc_u (qc_u (qc_u I 291 64 (I 291 15)) 318 (Int32.toNatClampNeg ((qc_u I 291 64 (I 291 15)) 291 40)) x1) 319 (Int32.toNatClampNeg ((qc_u (qc_u I 291 64 (I 291 15)) 318 (Int32.toNatClampNeg ((qc_u I 291 64 (I 291 15)) 291 40)) x1) 291 40)) ((qc_u (qc_u I 291 64 (I 291 15)) 318 (Int32.toNatClampNeg ((qc_u I 291 64 (I 291 15)) 291 40)) x1) 291 60)) 291 61)) 291 62)) 291 63)) 291 40 (((qc_u (qc_u (qc_u (qc_u (qc_u (qc_u I 291 64 (I 291 15)) 318 (Int32.toNatClampNeg ((qc_u I 291 64 (I 291 15)) 291 40)) x1) 319 (Int32.toNatClampNeg ((qc_u (qc_u I 291 64 (I 291 15)) 318 (Int32.toNatClampNeg ((qc_u I 291 64 (I 291 15)) 291 40)) x1) 291 40)) ((qc_u (qc_u I 291 64 (I 291 15)) 318 (Int32.toNatClampNeg ((qc_u I 291 64 (I 291 15)) 291 40)) x1) 291 60)) 320 (Int32.toNatClampNeg ((qc_u (qc_u (qc_u I 291 64 (I 291 15)) 318 (Int32.toNatClampNeg ((qc_u I 291 64 (I 291 15)) 291 40)) x1) 319 (Int32.toNatClampNeg ((qc_u (qc_u I 291 64 (I 291 15)) 318 (Int32.toNatClampNeg ((qc_u I 291 64 (I 291 15)) 291 40)) x1) 291 40)) ((qc_u (qc_u I 291 64 (I 291 15)) 318 (Int32.toNatClampNeg ((qc_u I 291 64 (I 291 15)) 291 40)) x1) 291 60)) 291 40)) ((qc_u (qc_u (qc_u I 291 64 (I 291 15)) 318 (Int32.toNatClampNeg ((qc_u I 291 64 (I 291 15)) 291 40)) x1) 319 (Int32.toNatClampNeg ((qc_u (qc_u I 291 64 (I 291 15)) 318 (Int32.toNatClampNeg ((qc_u I 291 64 (I 291 15)) 291 40)) x1) 291 40)) ((qc_u (qc_u I 291 64 (I 291 15)) 318 (Int32.toNatClampNeg ((qc_u I 291 64 (I 291 15)) 291 40)) x1) 291 60)) 291 61)) 321 (Int32.toNatClampNeg ((qc_u (qc_u (qc_u (qc_u I 291 64 (I 291 15)) 318 (Int32.toNatClampNeg ((qc_u I 291 64 (I 291 15)) 291 40)) x1) 319 (Int32.toNatClampNeg ((qc_u (qc_u I 291 64 (I 291 15)) 318 (Int32.toNatClampNeg ((qc_u I 291 64 (I 291 15)) 291 40)) x1) 291 40)) ((qc_u (qc_u I 291 64 (I 291 15)) 318 (Int32.toNatClampNeg ((qc_u I 291 64 (I 291 15)) 291 40)) x1) 291 60)) 320 (Int32.toNatClampNeg ((qc_u (qc_u (qc_u I 291 64 (I 291 15)) 318 (Int32.toNatClampNeg ((qc_u I 291 64 (I 291 15)) 291 40)) x1) 319 (Int32.toNatClampNeg ((qc_u (qc_u I 291 64 (I 291 15)) 318 (Int32.toNatClampNeg ((qc_u I 291 64 (I 291 15)) 291 40)) x1) 291 40)) ((qc_u (qc_u I 291 64 (I 291 15)) 318 (Int32.toNatClampNeg ((qc_u I 291 64 (I 291 15)) 291 40)) x1) 291 60)) 291 40)) ((qc_u (qc_u (qc_u I 291 64 (I 291 15)) 318 (Int32.toNatClampNeg ((qc_u I 291 64 (I 291 15)) 291 40)) x1) 319 (Int32.toNatClampNeg ((qc_u (qc_u I 291 64 (I 291 15)) 318 (Int32.toNatClampNeg ((qc_u I 291 64 (I 291 15)) 291 40)) x1) 291 40)) ((qc_u (qc_u I 291 64 (I 291 15)) 318 (Int32.toNatClampNeg ((qc_u I 291 64 (I 291 15)) 291 40)) x1) 291 60)) 291 61)) 291 40)) ((qc_u (qc_u (qc_u (qc_u I 291 64 (I 291 15)) 318 (Int32.toNatClampNeg ((qc_u I 291 64 (I 291 15)) 291 40)) x1) 319 (Int32.toNatClampNeg ((qc_u (qc_u I 291 64 (I 291 15)) 318 (Int32.toNatClampNeg ((qc_u I 291 64 (I 291 15)) 291 40)) x1) 291 40)) ((qc_u (qc_u I 291 64 (I 291 15)) 318 (Int32.toNatClampNeg ((qc_u I 291 64 (I 291 15)) 291 40)) x1) 291 60)) 320 (Int32.toNatClampNeg ((qc_u (qc_u (qc_u I 291 64 (I 291 15)) 318 (Int32.toNatClampNeg ((qc_u I 291 64 (I 291 15)) 291 40)) x1) 319 (Int32.toNatClampNeg ((qc_u (qc_u I 291 64 (I 291 15)) 318 (Int32.toNatClampNeg ((qc_u I 291 64 (I 291 15)) 291 40)) x1) 291 40)) ((qc_u (qc_u I 291 64 (I 291 15)) 318 (Int32.toNatClampNeg ((qc_u I 291 64 (I 291 15)) 291 40)) x1) 291 60)) 291 40)) ((qc_u (qc_u (qc_u I 291 64 (I 291 15)) 318 (Int32.toNatClampNeg ((qc_u I 291 64 (I 291 15)) 291 40)) x1) 319 (Int32.toNatClampNeg ((qc_u (qc_u I 291 64 (I 291 15)) 318 (Int32.toNatClampNeg ((qc_u I 291 64 (I 291 15)) 291 40)) x1) 291 40)) ((qc_u (qc_u I 291 64 (I 291 15)) 318 (Int32.toNatClampNeg ((qc_u I 291 64 (I 291 15)) 291 40)) x1) 291 60)) 291 61)) 291 62)) 323 (Int32.toNatClampNeg ((qc_u (qc_u (qc_u (qc_u (qc_u I 291 64 (I 291 15)) 318 (Int32.toNatClampNeg ((qc_u I 291 64 (I 291 15)) 291 40)) x1) 319 (Int32.toNatClampNeg ((qc_u (qc_u I 291 64 (I 291 15)) 318 (Int32.toNatClampNeg ((qc_u I 291 64 (I 291 15)) 291 40)) x1) 291 40)) ((qc_u (qc_u I 291 64 (I 291 15)) 318 (Int32.toNatClampNeg ((qc_u I 291 64 (I 291 15)) 291 40)) x1) 291 60)) 320 (Int32.toNatClampNeg ((qc_u (qc_u (qc_u I 291 64 (I 291 15)) 318 (Int32.toNatClampNeg ((qc_u I 291 64 (I 291 15)) 291 40)) x1) 319 (Int32.toNatClampNeg ((qc_u (qc_u I 291 64 (I 291 15)) 318 (Int32.toNatClampNeg ((qc_u I 291 64 (I 291 15)) 291 40)) x1) 291 40)) ((qc_u (qc_u I 291 64 (I 291 15)) 318 (Int32.toNatClampNeg ((qc_u I 291 64 (I 291 15)) 291 40)) x1) 291 60)) 291 40)) ((qc_u (qc_u (qc_u I 291 64 (I 291 15)) 318 (Int32.toNatClampNeg ((qc_u I 291 64 (I 291 15)) 291 40)) x1) 319 (Int32.toNatClampNeg ((qc_u (qc_u I 291 64 (I 291 15)) 318 (Int32.toNatClampNeg ((qc_u I 291 64 (I 291 15)) 291 40)) x1) 291 40)) ((qc_u (qc_u I 291 64 (I 291 15)) 318 (Int32.toNatClampNeg ((qc_u I 291 64 (I 291 15)) 291 40)) x1) 291 60)) 291 61)) 321 (Int32.toNatClampNeg ((qc_u (qc_u (qc_u (qc_u I 291 64 (I 291 15)) 318 (Int32.toNatClampNeg ((qc_u I 291 64 (I 291 15)) 291 40)) x1) 319 (Int32.toNatClampNeg ((qc_u (qc_u I 291 64 (I 291 15)) 318 (Int32.toNatClampNeg ((qc_u I 291 64 (I 291 15)) 291 40)) x1) 291 40)) ((qc_u (qc_u I 291 64 (I 291 15)) 318 (Int32.toNatClampNeg ((qc_u I 291 64 (I 291 15)) 291 40)) x1) 291 60)) 320 (Int32.toNatClampNeg ((qc_u (qc_u (qc_u I 291 64 (I 291 15)) 318 (Int32.toNatClampNeg ((qc_u I 291 64 (I 291 15)) 291 40)) x1) 319 (Int32.toNatClampNeg ((qc_u (qc_u I 291 64 (I 291 15)) 318 (Int32.toNatClampNeg ((qc_u I 291 64 (I 291 15)) 291 40)) x1) 291 40)) ((qc_u (qc_u I 291 64 (I 291 15)) 318 (Int32.toNatClampNeg ((qc_u I 291 64 (I 291 15)) 291 40)) x1) 291 60)) 291 40)) ((qc_u (qc_u (qc_u I 291 64 (I 291 15)) 318 (Int32.toNatClampNeg ((qc_u I 291 64 (I 291 15)) 291 40)) x1) 319 (Int32.toNatClampNeg ((qc_u (qc_u I 291 64 (I 291 15)) 318 (Int32.toNatClampNeg ((qc_u I 291 64 (I 291 15)) 291 40)) x1) 291 40)) ((qc_u (qc_u I 291 64 (I 291 15)) 318 (Int32.toNatClampNeg ((qc_u I 291 64 (I 291 15)) 291 40)) x1) 291 60)) 291 61)) 291 40)) ((qc_u (qc_u (qc_u (qc_u I 291 64 (I 291 15)) 318 (Int32.toNatClampNeg ((qc_u I 291 64 (I 291 15)) 291 40)) x1) 319 (Int32.toNatClampNeg ((qc_u (qc_u I 291 64 (I 291 15)) 318 (Int32.toNatClampNeg ((qc_u I 291 64 (I 291 15)) 291 40)) x1) 291 40)) ((qc_u (qc_u I 291 64 (I 291 15)) 318 (Int32.toNatClampNeg ((qc_u I 291 64 (I 291 15)) 291 40)) x1) 291 60)) 320 (Int32.toNatClampNeg ((qc_u (qc_u (qc_u I 291 64 (I 291 15)) 318 (Int32.toNatClampNeg ((qc_u I 291 64 (I 291 15)) 291 40)) x1) 319 (Int32.toNatClampNeg ((qc_u (qc_u I 291 64 (I 291 15)) 318 (Int32.toNatClampNeg ((qc_u I 291 64 (I 291 15)) 291 40)) x1) 291 40)) ((qc_u (qc_u I 291 64 (I 291 15)) 318 (Int32.toNatClampNeg ((qc_u I 291 64 (I 291 15)) 291 40)) x1) 291 60)) 291 40)) ((qc_u (qc_u (qc_u I 291 64 (I 291 15)) 318 (Int32.toNatClampNeg ((qc_u I 291 64 (I 291 15)) 291 40)) x1) 319 (Int32.toNatClampNeg ((qc_u (qc_u I 291 64 (I 291 15)) 318 (Int32.toNatClampNeg ((qc_u I 291 64 (I 291 15)) 291 40)) x1) 291 40)) ((qc_u (qc_u I 291 64 (I 291 15)) 318 (Int32.toNatClampNeg ((qc_u I 291 64 (I 291 15)) 291 40)) x1) 291 60)) 291 61)) 291 62)) 291 40)) ((qc_u (qc_u (qc_u (qc_u (qc_u I 291 64 (I 291 15)) 318 (Int32.toNatClampNeg ((qc_u I 291 64 (I 291 15)) 291 40)) x1) 319 (Int32.toNatClampNeg ((qc_u (qc_u I 291 64 (I 291 15)) 318 (Int32.toNatClampNeg ((qc_u I 291 64 (I 291 15)) 291 40)) x1) 291 40)) ((qc_u (qc_u I 291 64 (I 291 15)) 318 (Int32.toNatClampNeg ((qc_u I 291 64 (I 291 15)) 291 40)) x1) 291 60)) 320 (Int32.toNatClampNeg ((qc_u (qc_u (qc_u I 291 64 (I 291 15)) 318 (Int32.toNatClampNeg ((qc_u I 291 64 (I 291 15)) 291 40)) x1) 319 (Int32.toNatClampNeg ((qc_u (qc_u I 291 64 (I 291 15)) 318 (Int32.toNatClampNeg ((qc_u I 291 64 (I 291 15)) 291 40)) x1) 291 40)) ((qc_u (qc_u I 291 64 (I 291 15)) 318 (Int32.toNatClampNeg ((qc_u I 291 64 (I 291 15)) 291 40)) x1) 291 60)) 291 40)) ((qc_u (qc_u (qc_u I 291 64 (I 291 15)) 318 (Int32.toNatClampNeg ((qc_u I 291 64 (I 291 15)) 291 40)) x1) 319 (Int32.toNatClampNeg ((qc_u (qc_u I 291 64 (I 291 15)) 318 (Int32.toNatClampNeg ((qc_u I 291 64 (I 291 15)) 291 40)) x1) 291 40)) ((qc_u (qc_u I 291 64 (I 291 15)) 318 (Int32.toNatClampNeg ((qc_u I 291 64 (I 291 15)) 291 40)) x1) 291 60)) 291 61)) 321 (Int32.toNatClampNeg ((qc_u (qc_u (qc_u (qc_u I 291 64 (I 291 15)) 318 (Int32.toNatClampNeg ((qc_u I 291 64 (I 291 15)) 291 40)) x1) 319 (Int32.toNatClampNeg ((qc_u (qc_u I 291 64 (I 291 15)) 318 (Int32.toNatClampNeg ((qc_u I 291 64 (I 291 15)) 291 40)) x1) 291 40)) ((qc_u (qc_u I 291 64 (I 291 15)) 318 (Int32.toNatClampNeg ((qc_u I 291 64 (I 291 15)) 291 40)) x1) 291 60)) 320 (Int32.toNatClampNeg ((qc_u (qc_u (qc_u I 291 64 (I 291 15)) 318 (Int32.toNatClampNeg ((qc_u I 291 64 (I 291 15)) 291 40)) x1) 319 (Int32.toNatClampNeg ((qc_u (qc_u I 291 64 (I 291 15)) 318 (Int32.toNatClampNeg ((qc_u I 291 64 (I 291 15)) 291 40)) x1) 291 40)) ((qc_u (qc_u I 291 64 (I 291 15)) 318 (Int32.toNatClampNeg ((qc_u I 291 64 (I 291 15)) 291 40)) x1) 291 60)) 291 40)) ((qc_u (qc_u (qc_u I 291 64 (I 291 15)) 318 (Int32.toNatClampNeg ((qc_u I 291 64 (I 291 15)) 291 40)) x1) 319 (Int32.toNatClampNeg ((qc_u (qc_u I 291 64 (I 291 15)) 318 (Int32.toNatClampNeg ((qc_u I 291 64 (I 291 15)) 291 40)) x1) 291 40)) ((qc_u (qc_u I 291 64 (I 291 15)) 318 (Int32.toNatClampNeg ((qc_u I 291 64 (I 291 15)) 291 40)) x1) 291 60)) 291 61)) 291 40)) ((qc_u (qc_u (qc_u (qc_u I 291 64 (I 291 15)) 318 (Int32.toNatClampNeg ((qc_u I 291 64 (I 291 15)) 291 40)) x1) 319 (Int32.toNatClampNeg ((qc_u (qc_u I 291 64 (I 291 15)) 318 (Int32.toNatClampNeg ((qc_u I 291 64 (I 291 15)) 291 40)) x1) 291 40)) ((qc_u (qc_u I 291 64 (I 291 15)) 318 (Int32.toNatClampNeg ((qc_u I 291 64 (I 291 15)) 291 40)) x1) 291 60)) 320 (Int32.toNatClampNeg ((qc_u (qc_u (qc_u I 291 64 (I 291 15)) 318 (Int32.toNatClampNeg ((qc_u I 291 64 (I 291 15)) 291 40)) x1) 319 (Int32.toNatClampNeg ((qc_u (qc_u I 291 64 (I 291 15)) 318 (Int32.toNatClampNeg ((qc_u I 291 64 (I 291 15)) 291 40)) x1) 291 40)) ((qc_u (qc_u I 291 64 (I 291 15)) 318 (Int32.toNatClampNeg ((qc_u I 291 64 (I 291 15)) 291 40)) x1) 291 60)) 291 40)) ((qc_u (qc_u (qc_u I 291 64 (I 291 15)) 318 (Int32.toNatClampNeg ((qc_u I 291 64 (I 291 15)) 291 40)) x1) 319 (Int32.toNatClampNeg ((qc_u (qc_u I 291 64 (I 291 15)) 318 (Int32.toNatClampNeg ((qc_u I 291 64 (I 291 15)) 291 40)) x1) 291 40)) ((qc_u (qc_u I 291 64 (I 291 15)) 318 (Int32.toNatClampNeg ((qc_u I 291 64 (I 291 15)) 291 40)) x1) 291 60)) 291 61)) 291 62)) 291 63)) 291 40) + (1 : Int32))), L, D, R)) else (some (((-10 : Int32) - ((qc_u I 291 64 (I 291 15)) 291 16)), (qc_u I 291 64 (I 291 15)), L, D, R)))
set_option maxRecDepth 100000 in
set_option maxHeartbeats 4000000 in
theorem tX12_query_b101 {w : qcW} {I : qTI} {L : qTL} {D : qTD} {R : qTR} {x1 : Int32} {r : Int32} {I' : qTI} {L' : qTL} {D' : qTD} {R' : qTR} (hn : qcNF ≤ w.1) (hR : qc_FR R) (h : fX12_query_b101 w I L D R x1 = some (r, I', L', D', R')) : qc_fm qcSM (I, L, D, R) (I', L', D', R') ∧ qc_X (qc_rm (12) 0 0) qmX12_query (qc_QM 0 0 (qc_eq (some (.int r)) w (I', L', D', R'))) 0 0 w (101, [(0, .ref 291), (1, .int x1)], [], I, L, D, R) := by
  unfold fX12_query_b101 at h
  refine And.imp_right (fun hx => qc_aload_n (qc_at qkX12_query 57 rfl) rfl <| qc_aload_n (qc_at qkX12_query 58 rfl) rfl <| qc_gI (qc_at qkX12_query 59 rfl) hn rfl <| hx) (qd_pI (qc_at qkX12_query 60 rfl) hn rfl rfl ?_)
  refine And.imp_right (fun hx => qc_aload_n (qc_at qkX12_query 61 rfl) rfl <| qc_gI (qc_at qkX12_query 62 rfl) hn rfl <| hx) ?_
  refine qc_andC (qc_if_le (qc_at qkX12_query 63 rfl)) (fun u1 => ?_) (fun u1 => ?_)
  · replace h := qc_jp u1 h
    refine And.imp_right (fun hx => qc_aload_n (qc_at qkX12_query 69 rfl) rfl <| qc_gR (qc_at qkX12_query 70 rfl) hn rfl (qfr_291_44 hR) rfl <| qc_aload_n (qc_at qkX12_query 71 rfl) rfl <| qc_gI (qc_at qkX12_query 72 rfl) hn rfl <| qc_iload_n (qc_at qkX12_query 73 rfl) rfl <| hx) ?_
    obtain ⟨g2, h⟩ := qc_gd_of h
    refine qd_iast 12 (qc_at qkX12_query 74 rfl) hn rfl (qc_inb_in g2) rfl ?_
    refine And.imp_right (fun hx => qc_aload_n (qc_at qkX12_query 75 rfl) rfl <| qc_gR (qc_at qkX12_query 76 rfl) hn rfl (qfr_291_45 hR) rfl <| qc_aload_n (qc_at qkX12_query 77 rfl) rfl <| qc_gI (qc_at qkX12_query 78 rfl) hn rfl <| qc_aload_n (qc_at qkX12_query 79 rfl) rfl <| qc_gI (qc_at qkX12_query 80 rfl) hn rfl <| hx) ?_
    obtain ⟨g3, h⟩ := qc_gd_of h
    refine qd_iast 12 (qc_at qkX12_query 81 rfl) hn rfl (qc_inb_in g3) rfl ?_
    refine And.imp_right (fun hx => qc_aload_n (qc_at qkX12_query 82 rfl) rfl <| qc_gR (qc_at qkX12_query 83 rfl) hn rfl (qfr_291_46 hR) rfl <| qc_aload_n (qc_at qkX12_query 84 rfl) rfl <| qc_gI (qc_at qkX12_query 85 rfl) hn rfl <| qc_aload_n (qc_at qkX12_query 86 rfl) rfl <| qc_gI (qc_at qkX12_query 87 rfl) hn rfl <| hx) ?_
    obtain ⟨g4, h⟩ := qc_gd_of h
    refine qd_iast 12 (qc_at qkX12_query 88 rfl) hn rfl (qc_inb_in g4) rfl ?_
    refine And.imp_right (fun hx => qc_aload_n (qc_at qkX12_query 89 rfl) rfl <| qc_gR (qc_at qkX12_query 90 rfl) hn rfl (qfr_291_47 hR) rfl <| qc_aload_n (qc_at qkX12_query 91 rfl) rfl <| qc_gI (qc_at qkX12_query 92 rfl) hn rfl <| qc_aload_n (qc_at qkX12_query 93 rfl) rfl <| qc_gI (qc_at qkX12_query 94 rfl) hn rfl <| hx) ?_
    obtain ⟨g5, h⟩ := qc_gd_of h
    refine qd_iast 12 (qc_at qkX12_query 95 rfl) hn rfl (qc_inb_in g5) rfl ?_
    refine And.imp_right (fun hx => qc_aload_n (qc_at qkX12_query 96 rfl) rfl <| qc_gR (qc_at qkX12_query 97 rfl) hn rfl (qfr_291_49 hR) rfl <| qc_aload_n (qc_at qkX12_query 98 rfl) rfl <| qc_gI (qc_at qkX12_query 99 rfl) hn rfl <| qc_aload_n (qc_at qkX12_query 100 rfl) rfl <| qc_gI (qc_at qkX12_query 101 rfl) hn rfl <| hx) ?_
    obtain ⟨g6, h⟩ := qc_gd_of h
    refine qd_iast 12 (qc_at qkX12_query 102 rfl) hn rfl (qc_inb_in g6) rfl ?_
    refine And.imp_right (fun hx => qc_aload_n (qc_at qkX12_query 103 rfl) rfl <| qc_dup (qc_at qkX12_query 104 rfl) rfl <| qc_gI (qc_at qkX12_query 105 rfl) hn rfl <| qc_iconst (qc_at qkX12_query 106 rfl) <| qc_iadd (qc_at qkX12_query 107 rfl) <| hx) (qd_pI (qc_at qkX12_query 108 rfl) hn rfl rfl ?_)
    obtain ⟨rfl, rfl, rfl, rfl, rfl⟩ := qc_some5 h
    exact ⟨qc_fm.rf _, qc_aload_n (qc_at qkX12_query 109 rfl) rfl <| qc_gI (qc_at qkX12_query 110 rfl) hn rfl <| qc_iconst (qc_at qkX12_query 111 rfl) <| qc_isub (qc_at qkX12_query 112 rfl) <| qc_iret (qc_at qkX12_query 113 rfl) rfl (Nat.le_refl _) (Nat.le_refl _) (qc_eq.rf _ _ _)⟩
  · replace h := qc_jn u1 h
    obtain ⟨rfl, rfl, rfl, rfl, rfl⟩ := qc_some5 h
    exact ⟨qc_fm.rf _, qc_bipush (qc_at qkX12_query 64 rfl) <| qc_aload_n (qc_at qkX12_query 65 rfl) rfl <| qc_gI (qc_at qkX12_query 66 rfl) hn rfl <| qc_isub (qc_at qkX12_query 67 rfl) <| qc_iret (qc_at qkX12_query 68 rfl) rfl (Nat.le_refl _) (Nat.le_refl _) (qc_eq.rf _ _ _)⟩
def fX12_query (w : qcW) (I : qTI) (L : qTL) (D : qTD) (R : qTR) : qcO Int32 :=
  (if (I 291 40) = (12 : Int32) then (some ((-2 : Int32), I, L, D, R)) else (qc_bd (fX12_next w (qc_u (qc_u (qc_u (qc_u (qc_u (qc_u (qc_u (qc_u (qc_u (qc_u (qc_u (qc_u (qc_u I 291 8 (I 291 7)) 291 7 (0 : Int32)) 291 11 (0 : Int32)) 291 15 (0 : Int32)) 291 17 (0 : Int32)) 291 25 (0 : Int32)) 291 26 (0 : Int32)) 291 57 (-1 : Int32)) 291 58 (-1 : Int32)) 291 59 (-1 : Int32)) 291 60 (-1 : Int32)) 291 61 (-1 : Int32)) 291 62 (-1 : Int32)) L D R) fun r8 I8 L8 D8 R8 => qc_bd (fX12_read w I8 L8 D8 R8) fun r9 I9 L9 D9 R9 => if (I9 291 15) = 0 then (qc_bd (fX12_makes w I9 L9 D9 R9 r9) fun r11 I11 L11 D11 R11 => fX12_query_b101 w I11 L11 D11 R11 r9) else (fX12_query_b101 w I9 L9 D9 R9 r9)))
set_option maxRecDepth 100000 in
set_option maxHeartbeats 4000000 in
theorem tX12_query {w : qcW} {I : qTI} {L : qTL} {D : qTD} {R : qTR} {r : Int32} {I' : qTI} {L' : qTL} {D' : qTD} {R' : qTR} (hn : qcNF ≤ w.1) (hR : qc_FR R) (h : fX12_query w I L D R = some (r, I', L', D', R')) : qc_fm qcSM (I, L, D, R) (I', L', D', R') ∧ qc_V (12) 0 0 qmX12_query [.ref 291] w (I, L, D, R) (qc_eq (some (.int r)) w (I', L', D', R')) := by
  unfold fX12_query at h
  refine And.imp_right (fun hx => qc_V.of rfl rfl (Nat.le_of_ble_eq_true rfl) (lv := [(0, .ref 291)]) rfl hx) ?_
  refine And.imp_right (fun hx => qc_aload_n (qc_at qkX12_query 0 rfl) rfl <| qc_gI (qc_at qkX12_query 1 rfl) hn rfl <| qc_bipush (qc_at qkX12_query 2 rfl) <| hx) ?_
  refine qc_andN (qc_icmp_ne (qc_at qkX12_query 3 rfl)) (fun u7 => ?_) (fun u7 => ?_)
  · replace h := qc_jn u7 h
    refine And.imp_right (fun hx => qc_aload_n (qc_at qkX12_query 6 rfl) rfl <| qc_aload_n (qc_at qkX12_query 7 rfl) rfl <| qc_gI (qc_at qkX12_query 8 rfl) hn rfl <| hx) (qd_pI (qc_at qkX12_query 9 rfl) hn rfl rfl ?_)
    refine And.imp_right (fun hx => qc_aload_n (qc_at qkX12_query 10 rfl) rfl <| qc_iconst (qc_at qkX12_query 11 rfl) <| hx) (qd_pI (qc_at qkX12_query 12 rfl) hn rfl rfl ?_)
    refine And.imp_right (fun hx => qc_aload_n (qc_at qkX12_query 13 rfl) rfl <| qc_iconst (qc_at qkX12_query 14 rfl) <| hx) (qd_pI (qc_at qkX12_query 15 rfl) hn rfl rfl ?_)
    refine And.imp_right (fun hx => qc_aload_n (qc_at qkX12_query 16 rfl) rfl <| qc_iconst (qc_at qkX12_query 17 rfl) <| hx) (qd_pI (qc_at qkX12_query 18 rfl) hn rfl rfl ?_)
    refine And.imp_right (fun hx => qc_aload_n (qc_at qkX12_query 19 rfl) rfl <| qc_iconst (qc_at qkX12_query 20 rfl) <| hx) (qd_pI (qc_at qkX12_query 21 rfl) hn rfl rfl ?_)
    refine And.imp_right (fun hx => qc_aload_n (qc_at qkX12_query 22 rfl) rfl <| qc_iconst (qc_at qkX12_query 23 rfl) <| hx) (qd_pI (qc_at qkX12_query 24 rfl) hn rfl rfl ?_)
    refine And.imp_right (fun hx => qc_aload_n (qc_at qkX12_query 25 rfl) rfl <| qc_iconst (qc_at qkX12_query 26 rfl) <| hx) (qd_pI (qc_at qkX12_query 27 rfl) hn rfl rfl ?_)
    refine And.imp_right (fun hx => qc_aload_n (qc_at qkX12_query 28 rfl) rfl <| qc_iconst (qc_at qkX12_query 29 rfl) <| hx) (qd_pI (qc_at qkX12_query 30 rfl) hn rfl rfl ?_)
    refine And.imp_right (fun hx => qc_aload_n (qc_at qkX12_query 31 rfl) rfl <| qc_iconst (qc_at qkX12_query 32 rfl) <| hx) (qd_pI (qc_at qkX12_query 33 rfl) hn rfl rfl ?_)
    refine And.imp_right (fun hx => qc_aload_n (qc_at qkX12_query 34 rfl) rfl <| qc_iconst (qc_at qkX12_query 35 rfl) <| hx) (qd_pI (qc_at qkX12_query 36 rfl) hn rfl rfl ?_)
    refine And.imp_right (fun hx => qc_aload_n (qc_at qkX12_query 37 rfl) rfl <| qc_iconst (qc_at qkX12_query 38 rfl) <| hx) (qd_pI (qc_at qkX12_query 39 rfl) hn rfl rfl ?_)
    refine And.imp_right (fun hx => qc_aload_n (qc_at qkX12_query 40 rfl) rfl <| qc_iconst (qc_at qkX12_query 41 rfl) <| hx) (qd_pI (qc_at qkX12_query 42 rfl) hn rfl rfl ?_)
    refine And.imp_right (fun hx => qc_aload_n (qc_at qkX12_query 43 rfl) rfl <| qc_iconst (qc_at qkX12_query 44 rfl) <| hx) (qd_pI (qc_at qkX12_query 45 rfl) hn rfl rfl ?_)
    refine And.imp_right (fun hx => qc_aload_n (qc_at qkX12_query 46 rfl) rfl <| hx) ?_
    obtain ⟨r8, I8, L8, D8, R8, e8, h⟩ := qc_bd_of h
    have c8 := (tX12_next hn hR e8)
    refine qd_cVn (ci := 10) (a0 := 291) (qc_at qkX12_query 47 rfl) ql_12_304 qfX12_next (qc_kf hn rfl) rfl c8 rfl rfl (Nat.le_of_ble_eq_true rfl) (qc_rml (by decide) (by decide)) ⟨Nat.zero_le _, Nat.zero_le _⟩ ?_
    refine And.imp_right (fun hx => qc_aload_n (qc_at qkX12_query 48 rfl) rfl <| hx) ?_
    obtain ⟨r9, I9, L9, D9, R9, e9, h⟩ := qc_bd_of h
    have c9 := (tX12_read hn (c8.1.1 hR) e9)
    refine qd_cVv (ci := 10) (a0 := 291) (qc_at qkX12_query 49 rfl) ql_12_576 qfX12_read (qc_kf hn rfl) rfl c9 rfl rfl (Nat.le_of_ble_eq_true rfl) (qc_rml (by decide) (by decide)) ⟨Nat.zero_le _, Nat.zero_le _⟩ ?_
    refine And.imp_right (fun hx => qc_istore_n (lv' := [(1, _), (0, _)]) (qc_at qkX12_query 50 rfl) rfl rfl <| qc_aload_n (qc_at qkX12_query 51 rfl) rfl <| qc_gI (qc_at qkX12_query 52 rfl) hn rfl <| hx) ?_
    refine qc_andN (qc_if_ne (qc_at qkX12_query 53 rfl)) (fun u10 => ?_) (fun u10 => ?_)
    · replace h := qc_jn u10 h
      exact And.imp_right (fun hx => qc_sub [1, 0] rfl hx) (tX12_query_b101 hn (c9.1.1 (c8.1.1 hR)) h)
    · replace h := qc_jp u10 h
      refine And.imp_right (fun hx => qc_aload_n (qc_at qkX12_query 54 rfl) rfl <| qc_iload_n (qc_at qkX12_query 55 rfl) rfl <| hx) ?_
      obtain ⟨r11, I11, L11, D11, R11, e11, h⟩ := qc_bd_of h
      have c11 := (tX12_makes hn (c9.1.1 (c8.1.1 hR)) e11)
      refine qd_cVn (ci := 10) (a0 := 291) (qc_at qkX12_query 56 rfl) ql_12_579 qfX12_makes (qc_kf hn rfl) rfl c11 rfl rfl (Nat.le_of_ble_eq_true rfl) (qc_rml (by decide) (by decide)) ⟨Nat.zero_le _, Nat.zero_le _⟩ ?_
      exact And.imp_right (fun hx => qc_sub [1, 0] rfl hx) (tX12_query_b101 hn (c11.1.1 (c9.1.1 (c8.1.1 hR))) h)
  · replace h := qc_jp u7 h
    obtain ⟨rfl, rfl, rfl, rfl, rfl⟩ := qc_some5 h
    exact ⟨qc_fm.rf _, qc_bipush (qc_at qkX12_query 4 rfl) <| qc_iret (qc_at qkX12_query 5 rfl) rfl (Nat.le_refl _) (Nat.le_refl _) (qc_eq.rf _ _ _)⟩
