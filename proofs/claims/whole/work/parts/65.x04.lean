def fX4_go_b34 (w : qcW) (k34 : qTI × qTL × qTD × qTR × Int32 × Int32 → qcO Int32) (I : qTI) (L : qTL) (D : qTD) (R : qTR) (x3 : Int32) (x4 : Int32) : qcO Int32 :=
  (if x3 ≤ x4 then (qc_gd (qc_io w (R 286 3) 6) <| qc_bd (fX3_keepFirst w I L D R (I (R 286 3) 9)) fun r3 I3 L3 D3 R3 => some ((I3 280 5), I3, L3, D3, R3)) else (qc_bd (fX4_visit w (qc_u I 286 4 x4) L D R) fun r4 I4 L4 D4 R4 => if r4 = true then (k34 (I4, L4, D4, R4, x3, (x4 + (1)))) else (qc_bd (fX1_giveBack w I4 L4 D4 R4) fun r6 I6 L6 D6 R6 => some (((-10 : Int32) - (I6 286 4)), I6, L6, D6, R6))))
set_option maxRecDepth 100000 in
set_option maxHeartbeats 4000000 in
theorem tX4_go_b34 {w : qcW} {I : qTI} {L : qTL} {D : qTD} {R : qTR} {k34 : qTI × qTL × qTD × qTR × Int32 × Int32 → qcO Int32} {x3 : Int32} {x4 : Int32} {r : Int32} {I' : qTI} {L' : qTL} {D' : qTD} {R' : qTR} (hn : qcNF ≤ w.1) (hR : qc_FR R) (hk34 : ∀ {I : qTI} {L : qTL} {D : qTD} {R : qTR} {x3 : Int32} {x4 : Int32} {r : Int32} {I' : qTI} {L' : qTL} {D' : qTD} {R' : qTR}, qc_FR R → k34 (I, L, D, R, x3, x4) = some (r, I', L', D', R') → qc_fm qcSX (I, L, D, R) (I', L', D', R') ∧ qc_X (qc_rm (6) 0 0) qmX4_go (qc_QM 0 0 (qc_eq (some (.int r)) w (I', L', D', R'))) 0 0 w (34, [(0, .ref 286), (3, .int x3), (4, .int x4)], [], I, L, D, R)) (h : fX4_go_b34 w k34 I L D R x3 x4 = some (r, I', L', D', R')) : qc_fm qcSX (I, L, D, R) (I', L', D', R') ∧ qc_X (qc_rm (6) 0 0) qmX4_go (qc_QM 0 0 (qc_eq (some (.int r)) w (I', L', D', R'))) 0 0 w (34, [(0, .ref 286), (3, .int x3), (4, .int x4)], [], I, L, D, R) := by
  unfold fX4_go_b34 at h
  refine And.imp_right (fun hx => qc_iload (qc_at qkX4_go 17 rfl) rfl <| qc_iload_n (qc_at qkX4_go 18 rfl) rfl <| hx) ?_
  refine qc_andC (qc_icmp_ge (qc_at qkX4_go 19 rfl)) (fun u1 => ?_) (fun u1 => ?_)
  · replace h := qc_jp u1 h
    refine And.imp_right (fun hx => qc_aload_n (qc_at qkX4_go 36 rfl) rfl <| qc_gR (qc_at qkX4_go 37 rfl) hn rfl (qfr_286_1 hR) rfl <| qc_aload_n (qc_at qkX4_go 38 rfl) rfl <| hx) ?_
    obtain ⟨g2, h⟩ := qc_gd_of h
    replace g2 := qc_io_of g2
    refine And.imp_right (fun hx => qc_gR (qc_at qkX4_go 39 rfl) hn rfl rfl (qc_ki255 g2) <| qc_gId (qc_at qkX4_go 40 rfl) g2 rfl <| hx) ?_
    obtain ⟨r3, I3, L3, D3, R3, e3, h⟩ := qc_bd_of h
    have c3 := (tX3_keepFirst hn hR e3)
    refine qd_cVn (ci := 3) (a0 := 280) (qc_at qkX4_go 41 rfl) ql_4_61 qfX3_keepFirst (qc_kf hn rfl) rfl c3 rfl rfl (Nat.le_of_ble_eq_true rfl) (qc_rml (by decide) (by decide)) ⟨Nat.zero_le _, Nat.zero_le _⟩ ?_
    obtain ⟨rfl, rfl, rfl, rfl, rfl⟩ := qc_some5 h
    exact ⟨qc_fm.rf _, qc_aload_n (qc_at qkX4_go 42 rfl) rfl <| qc_gR (qc_at qkX4_go 43 rfl) hn rfl (qfr_286_1 (c3.1.1 hR)) rfl <| qc_gI (qc_at qkX4_go 44 rfl) hn rfl <| qc_iret (qc_at qkX4_go 45 rfl) rfl (Nat.le_refl _) (Nat.le_refl _) (qc_eq.rf _ _ _)⟩
  · replace h := qc_jn u1 h
    refine And.imp_right (fun hx => qc_aload_n (qc_at qkX4_go 20 rfl) rfl <| qc_iload (qc_at qkX4_go 21 rfl) rfl <| hx) (qd_pI (qc_at qkX4_go 22 rfl) hn rfl rfl ?_)
    refine And.imp_right (fun hx => qc_aload_n (qc_at qkX4_go 23 rfl) rfl <| hx) ?_
    obtain ⟨r4, I4, L4, D4, R4, e4, h⟩ := qc_bd_of h
    have c4 := (tX4_visit hn hR e4)
    refine qd_cVv (ci := 4) (a0 := 286) (qc_at qkX4_go 24 rfl) ql_4_51 qfX4_visit (qc_kf hn rfl) rfl c4 rfl rfl (Nat.le_of_ble_eq_true rfl) (qc_rml (by decide) (by decide)) ⟨Nat.zero_le _, Nat.zero_le _⟩ ?_
    refine qc_andBn (qc_ifB_ne (qc_at qkX4_go 25 rfl)) (fun u5 => ?_) (fun u5 => ?_)
    · replace h := qc_jt u5 h
      exact And.imp_right (fun hx => qc_iinc (lv' := [(4, _), (0, _), (3, _)]) (qc_at qkX4_go 34 rfl) rfl rfl rfl <| qc_goto (qc_at qkX4_go 35 rfl) <| qc_sub [1, 2, 0] rfl hx) (hk34 (c4.1.1 hR) h)
    · replace h := qc_jf u5 h
      refine And.imp_right (fun hx => qc_aload_n (qc_at qkX4_go 26 rfl) rfl <| qc_gR (qc_at qkX4_go 27 rfl) hn rfl (qfr_286_0 (c4.1.1 hR)) rfl <| hx) ?_
      obtain ⟨r6, I6, L6, D6, R6, e6, h⟩ := qc_bd_of h
      have c6 := (tX1_giveBack hn (c4.1.1 hR) e6)
      refine qd_cVn (ci := 1) (a0 := 257) (qc_at qkX4_go 28 rfl) ql_4_55 qfX1_giveBack (qc_kf hn rfl) rfl c6 rfl rfl (Nat.le_of_ble_eq_true rfl) (qc_rml (by decide) (by decide)) ⟨Nat.zero_le _, Nat.zero_le _⟩ ?_
      obtain ⟨rfl, rfl, rfl, rfl, rfl⟩ := qc_some5 h
      exact ⟨qc_fm.rf _, qc_bipush (qc_at qkX4_go 29 rfl) <| qc_aload_n (qc_at qkX4_go 30 rfl) rfl <| qc_gI (qc_at qkX4_go 31 rfl) hn rfl <| qc_isub (qc_at qkX4_go 32 rfl) <| qc_iret (qc_at qkX4_go 33 rfl) rfl (Nat.le_refl _) (Nat.le_refl _) (qc_eq.rf _ _ _)⟩
def fX4_go_l34 (w : qcW) : Nat → qTI × qTL × qTD × qTR × Int32 × Int32 → qcO Int32 := qc_lp (fun k q => match q with | (I, L, D, R, x3, x4) => fX4_go_b34 w k I L D R x3 x4)
set_option maxRecDepth 100000 in
set_option maxHeartbeats 4000000 in
theorem tX4_go_l34 {w : qcW} (hn : qcNF ≤ w.1) : ∀ (n : Nat) {r : Int32} {I' : qTI} {L' : qTL} {D' : qTD} {R' : qTR} {I : qTI} {L : qTL} {D : qTD} {R : qTR} {x3 : Int32} {x4 : Int32} (hR : qc_FR R) (h : fX4_go_l34 w n (I, L, D, R, x3, x4) = some (r, I', L', D', R')), qc_fm qcSX (I, L, D, R) (I', L', D', R') ∧ qc_X (qc_rm (6) 0 0) qmX4_go (qc_QM 0 0 (qc_eq (some (.int r)) w (I', L', D', R'))) 0 0 w (34, [(0, .ref 286), (3, .int x3), (4, .int x4)], [], I, L, D, R) := by
  intro n
  induction n with
  | zero => intro _ _ _ _ _ _ _ _ _ _ _ _ h; cases h
  | succ n ih => intro _ _ _ _ _ _ _ _ _ _ _ hR h; exact tX4_go_b34 hn hR (k34 := fX4_go_l34 w n) (fun hR h => ih hR h) h
def fX4_go (w : qcW) (I : qTI) (L : qTL) (D : qTD) (R : qTR) (x1 : Nat) (x2 : Int32) (x3 : Int32) : qcO Int32 :=
  (qc_gd (qc_io w x1 6) <| (qc_gd (qc_io w ((qc_u R 286 3 x1) 286 3) 6) <| qc_bd (fX3_begin w I L D (qc_u R 286 3 x1) x2 ((qc_u R 286 3 x1) 286 3)) fun r9 I9 L9 D9 R9 => qc_gd (qc_io w (R9 286 3) 6) <| qc_bd (fX1_keep w I9 L9 D9 R9 (I9 (R9 286 3) 7)) fun r11 I11 L11 D11 R11 => fX4_go_l34 w qcF (I11, L11, D11, R11, x3, (0 : Int32))))
set_option maxRecDepth 100000 in
set_option maxHeartbeats 4000000 in
theorem tX4_go {w : qcW} {I : qTI} {L : qTL} {D : qTD} {R : qTR} {x1 : Nat} {x2 : Int32} {x3 : Int32} {r : Int32} {I' : qTI} {L' : qTL} {D' : qTD} {R' : qTR} (hn : qcNF ≤ w.1) (hR : qc_FR R) (h : fX4_go w I L D R x1 x2 x3 = some (r, I', L', D', R')) : qc_fm qcSX (I, L, D, R) (I', L', D', R') ∧ qc_V (6) 0 0 qmX4_go [.ref 286, .ref x1, .int x2, .int x3] w (I, L, D, R) (qc_eq (some (.int r)) w (I', L', D', R')) := by
  unfold fX4_go at h
  refine And.imp_right (fun hx => qc_V.of rfl rfl (Nat.le_of_ble_eq_true rfl) (lv := [(0, .ref 286), (1, .ref x1), (2, .int x2), (3, .int x3)]) rfl hx) ?_
  obtain ⟨g7, h⟩ := qc_gd_of h
  replace g7 := qc_io_of g7
  refine And.imp_right (fun hx => qc_aload_n (qc_at qkX4_go 0 rfl) rfl <| qc_aload_n (qc_at qkX4_go 1 rfl) rfl <| hx) (qd_pR (qc_at qkX4_go 2 rfl) hn rfl (qc_ki255 g7) rfl rfl ?_)
  refine And.imp_right (fun hx => qc_aload_n (qc_at qkX4_go 3 rfl) rfl <| qc_gR (qc_at qkX4_go 4 rfl) hn rfl (qfr_286_1 (hR.u _ rfl)) rfl <| qc_iload_n (qc_at qkX4_go 5 rfl) rfl <| qc_aload_n (qc_at qkX4_go 6 rfl) rfl <| hx) ?_
  obtain ⟨g8, h⟩ := qc_gd_of h
  replace g8 := qc_io_of g8
  refine And.imp_right (fun hx => qc_gR (qc_at qkX4_go 7 rfl) hn rfl rfl (qc_ki255 g8) <| hx) ?_
  obtain ⟨r9, I9, L9, D9, R9, e9, h⟩ := qc_bd_of h
  have c9 := (tX3_begin hn (hR.u _ rfl) e9)
  refine qd_cVn (ci := 3) (a0 := 280) (qc_at qkX4_go 8 rfl) ql_4_30 qfX3_begin (qc_kf hn rfl) rfl c9 rfl rfl (Nat.le_of_ble_eq_true rfl) (qc_rml (by decide) (by decide)) ⟨Nat.zero_le _, Nat.zero_le _⟩ ?_
  refine And.imp_right (fun hx => qc_aload_n (qc_at qkX4_go 9 rfl) rfl <| qc_gR (qc_at qkX4_go 10 rfl) hn rfl (qfr_286_0 (c9.1.1 (hR.u _ rfl))) rfl <| qc_aload_n (qc_at qkX4_go 11 rfl) rfl <| hx) ?_
  obtain ⟨g10, h⟩ := qc_gd_of h
  replace g10 := qc_io_of g10
  refine And.imp_right (fun hx => qc_gR (qc_at qkX4_go 12 rfl) hn rfl rfl (qc_ki255 g10) <| qc_gId (qc_at qkX4_go 13 rfl) g10 rfl <| hx) ?_
  obtain ⟨r11, I11, L11, D11, R11, e11, h⟩ := qc_bd_of h
  have c11 := (tX1_keep hn (c9.1.1 (hR.u _ rfl)) e11)
  refine qd_cVn (ci := 1) (a0 := 257) (qc_at qkX4_go 14 rfl) ql_4_42 qfX1_keep (qc_kf hn rfl) rfl c11 rfl rfl (Nat.le_of_ble_eq_true rfl) (qc_rml (by decide) (by decide)) ⟨Nat.zero_le _, Nat.zero_le _⟩ ?_
  exact And.imp_right (fun hx => qc_iconst (qc_at qkX4_go 15 rfl) <| qc_istore (lv' := [(4, _), (0, _), (1, _), (2, _), (3, _)]) (qc_at qkX4_go 16 rfl) rfl rfl <| qc_sub [1, 4, 0] rfl hx) (tX4_go_l34 hn qcF (c11.1.1 (c9.1.1 (hR.u _ rfl))) h)
