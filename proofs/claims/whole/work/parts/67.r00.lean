/-! the family of methods that call each other, by depth -/
abbrev qcRc : Type := Nat → Int32 → qTI → qTL → qTD → qTR → qcO Int32
abbrev qcRB : Nat := 7
def qd_mi : Nat → qcI
  | 0 => qmX2_sum
  | 1 => qmX2_choice
  | 2 => qmX2_joined
  | 3 => qmX2_denied
  | 4 => qmX2_signed
  | 5 => qmX2_part
  | 6 => qmX2_cellOf
  | _ => qmX2_function
def qd_as (x : Int32) : Nat → List Value
  | 0 => [.ref 267]
  | 1 => [.ref 267, .int x]
  | 2 => [.ref 267, .int x]
  | 3 => [.ref 267]
  | 4 => [.ref 267]
  | 5 => [.ref 267]
  | 6 => [.ref 267]
  | _ => [.ref 267]
def qcHrc (w : qcW) (rc : qcRc) (dr : Nat) : Prop := ∀ (id : Nat) (x : Int32) {I : qTI} {L : qTL} {D : qTD} {R : qTR} {r : Int32} {I' : qTI} {L' : qTL} {D' : qTD} {R' : qTR}, qc_FR R → rc id x I L D R = some (r, I', L', D', R') → qc_fm qcSX (I, L, D, R) (I', L', D', R') ∧ qc_V dr 0 0 (qd_mi id) (qd_as x id) w (I, L, D, R) (qc_eq (some (.int r)) w (I', L', D', R'))
theorem qd_rc0 {w : qcW} {rc : qcRc} {dr : Nat} {x : Int32} {I : qTI} {L : qTL} {D : qTD} {R : qTR} {r : Int32} {I' : qTI} {L' : qTL} {D' : qTD} {R' : qTR} (hrc : qcHrc w rc dr) (hR : qc_FR R) (e : rc 0 x I L D R = some (r, I', L', D', R')) : qc_fm qcSX (I, L, D, R) (I', L', D', R') ∧ qc_V dr 0 0 qmX2_sum [.ref 267] w (I, L, D, R) (qc_eq (some (.int r)) w (I', L', D', R')) := hrc 0 x hR e
theorem qd_rc1 {w : qcW} {rc : qcRc} {dr : Nat} {x : Int32} {I : qTI} {L : qTL} {D : qTD} {R : qTR} {r : Int32} {I' : qTI} {L' : qTL} {D' : qTD} {R' : qTR} (hrc : qcHrc w rc dr) (hR : qc_FR R) (e : rc 1 x I L D R = some (r, I', L', D', R')) : qc_fm qcSX (I, L, D, R) (I', L', D', R') ∧ qc_V dr 0 0 qmX2_choice [.ref 267, .int x] w (I, L, D, R) (qc_eq (some (.int r)) w (I', L', D', R')) := hrc 1 x hR e
theorem qd_rc2 {w : qcW} {rc : qcRc} {dr : Nat} {x : Int32} {I : qTI} {L : qTL} {D : qTD} {R : qTR} {r : Int32} {I' : qTI} {L' : qTL} {D' : qTD} {R' : qTR} (hrc : qcHrc w rc dr) (hR : qc_FR R) (e : rc 2 x I L D R = some (r, I', L', D', R')) : qc_fm qcSX (I, L, D, R) (I', L', D', R') ∧ qc_V dr 0 0 qmX2_joined [.ref 267, .int x] w (I, L, D, R) (qc_eq (some (.int r)) w (I', L', D', R')) := hrc 2 x hR e
theorem qd_rc3 {w : qcW} {rc : qcRc} {dr : Nat} {x : Int32} {I : qTI} {L : qTL} {D : qTD} {R : qTR} {r : Int32} {I' : qTI} {L' : qTL} {D' : qTD} {R' : qTR} (hrc : qcHrc w rc dr) (hR : qc_FR R) (e : rc 3 x I L D R = some (r, I', L', D', R')) : qc_fm qcSX (I, L, D, R) (I', L', D', R') ∧ qc_V dr 0 0 qmX2_denied [.ref 267] w (I, L, D, R) (qc_eq (some (.int r)) w (I', L', D', R')) := hrc 3 x hR e
theorem qd_rc4 {w : qcW} {rc : qcRc} {dr : Nat} {x : Int32} {I : qTI} {L : qTL} {D : qTD} {R : qTR} {r : Int32} {I' : qTI} {L' : qTL} {D' : qTD} {R' : qTR} (hrc : qcHrc w rc dr) (hR : qc_FR R) (e : rc 4 x I L D R = some (r, I', L', D', R')) : qc_fm qcSX (I, L, D, R) (I', L', D', R') ∧ qc_V dr 0 0 qmX2_signed [.ref 267] w (I, L, D, R) (qc_eq (some (.int r)) w (I', L', D', R')) := hrc 4 x hR e
theorem qd_rc5 {w : qcW} {rc : qcRc} {dr : Nat} {x : Int32} {I : qTI} {L : qTL} {D : qTD} {R : qTR} {r : Int32} {I' : qTI} {L' : qTL} {D' : qTD} {R' : qTR} (hrc : qcHrc w rc dr) (hR : qc_FR R) (e : rc 5 x I L D R = some (r, I', L', D', R')) : qc_fm qcSX (I, L, D, R) (I', L', D', R') ∧ qc_V dr 0 0 qmX2_part [.ref 267] w (I, L, D, R) (qc_eq (some (.int r)) w (I', L', D', R')) := hrc 5 x hR e
theorem qd_rc6 {w : qcW} {rc : qcRc} {dr : Nat} {x : Int32} {I : qTI} {L : qTL} {D : qTD} {R : qTR} {r : Int32} {I' : qTI} {L' : qTL} {D' : qTD} {R' : qTR} (hrc : qcHrc w rc dr) (hR : qc_FR R) (e : rc 6 x I L D R = some (r, I', L', D', R')) : qc_fm qcSX (I, L, D, R) (I', L', D', R') ∧ qc_V dr 0 0 qmX2_cellOf [.ref 267] w (I, L, D, R) (qc_eq (some (.int r)) w (I', L', D', R')) := hrc 6 x hR e
theorem qd_rc7 {w : qcW} {rc : qcRc} {dr : Nat} {x : Int32} {I : qTI} {L : qTL} {D : qTD} {R : qTR} {r : Int32} {I' : qTI} {L' : qTL} {D' : qTD} {R' : qTR} (hrc : qcHrc w rc dr) (hR : qc_FR R) (e : rc 7 x I L D R = some (r, I', L', D', R')) : qc_fm qcSX (I, L, D, R) (I', L', D', R') ∧ qc_V dr 0 0 qmX2_function [.ref 267] w (I, L, D, R) (qc_eq (some (.int r)) w (I', L', D', R')) := hrc 7 x hR e
def fX2_sum (w : qcW) (rc : qcRc) (I : qTI) (L : qTL) (D : qTD) (R : qTR) : qcO Int32 :=
  (qc_bd (rc 2 (0 : Int32) I L D R) fun r1 I1 L1 D1 R1 => qc_gd (qc_l62 (R1 268 1)) <| if (R1 268 1) = 59 then (qc_bd (rc 1 r1 I1 L1 D1 R1) fun r4 I4 L4 D4 R4 => some (r4, I4, L4, D4, R4)) else (some (r1, I1, L1, D1, R1)))
set_option maxRecDepth 100000 in
set_option maxHeartbeats 4000000 in
theorem tX2_sum {w : qcW} {rc : qcRc} {dr : Nat} {I : qTI} {L : qTL} {D : qTD} {R : qTR} {r : Int32} {I' : qTI} {L' : qTL} {D' : qTD} {R' : qTR} (hn : qcNF ≤ w.1) (hb : qcRB ≤ dr) (hrc : qcHrc w rc dr) (hR : qc_FR R) (h : fX2_sum w rc I L D R = some (r, I', L', D', R')) : qc_fm qcSX (I, L, D, R) (I', L', D', R') ∧ qc_V (dr + 1) 0 0 qmX2_sum [.ref 267] w (I, L, D, R) (qc_eq (some (.int r)) w (I', L', D', R')) := by
  unfold fX2_sum at h
  refine And.imp_right (fun hx => qc_V.of rfl rfl (Nat.le_of_ble_eq_true rfl) (lv := [(0, .ref 267)]) rfl hx) ?_
  refine And.imp_right (fun hx => qc_aload_n (qc_at qkX2_sum 0 rfl) rfl <| qc_iconst (qc_at qkX2_sum 1 rfl) <| hx) ?_
  obtain ⟨r1, I1, L1, D1, R1, e1, h⟩ := qc_bd_of h
  have c1 := (qd_rc2 hrc hR e1)
  refine qd_cVv (ci := 2) (a0 := 267) (qc_at qkX2_sum 2 rfl) ql_2_173 qfX2_joined (qc_kf hn rfl) rfl c1 rfl rfl (Nat.le_of_ble_eq_true rfl) (qc_rml (Nat.le_refl _) (by decide)) ⟨Nat.zero_le _, Nat.zero_le _⟩ ?_
  refine And.imp_right (fun hx => qc_istore_n (lv' := [(1, _), (0, _)]) (qc_at qkX2_sum 3 rfl) rfl rfl <| qc_aload_n (qc_at qkX2_sum 4 rfl) rfl <| qc_gR (qc_at qkX2_sum 5 rfl) hn rfl (qfr_267_0 (c1.1.1 hR)) rfl <| hx) ?_
  obtain ⟨g2, h⟩ := qc_gd_of h
  replace g2 := qc_l62_of g2
  refine And.imp_right (fun hx => qc_gR (qc_at qkX2_sum 6 rfl) hn rfl rfl (qc_ne62 g2) <| qc_gS (qc_at qkX2_sum 7 rfl) rfl <| hx) ?_
  refine qc_andN (qc_acmp_ne (qc_at qkX2_sum 8 rfl) (Or.inl g2) (Or.inl (by decide))) (fun u3 => ?_) (fun u3 => ?_)
  · replace h := qc_jn u3 h
    obtain ⟨rfl, rfl, rfl, rfl, rfl⟩ := qc_some5 h
    exact ⟨qc_fm.rf _, qc_iload_n (qc_at qkX2_sum 13 rfl) rfl <| qc_iret (qc_at qkX2_sum 14 rfl) rfl (Nat.le_refl _) (Nat.le_refl _) (qc_eq.rf _ _ _)⟩
  · replace h := qc_jp u3 h
    refine And.imp_right (fun hx => qc_aload_n (qc_at qkX2_sum 9 rfl) rfl <| qc_iload_n (qc_at qkX2_sum 10 rfl) rfl <| hx) ?_
    obtain ⟨r4, I4, L4, D4, R4, e4, h⟩ := qc_bd_of h
    have c4 := (qd_rc1 hrc (c1.1.1 hR) e4)
    refine qd_cVv (ci := 2) (a0 := 267) (qc_at qkX2_sum 11 rfl) ql_2_218 qfX2_choice (qc_kf hn rfl) rfl c4 rfl rfl (Nat.le_of_ble_eq_true rfl) (qc_rml (Nat.le_refl _) (by decide)) ⟨Nat.zero_le _, Nat.zero_le _⟩ ?_
    obtain ⟨rfl, rfl, rfl, rfl, rfl⟩ := qc_some5 h
    exact ⟨qc_fm.rf _, qc_goto (qc_at qkX2_sum 12 rfl) <| qc_iret (qc_at qkX2_sum 14 rfl) rfl (Nat.le_refl _) (Nat.le_refl _) (qc_eq.rf _ _ _)⟩
def fX2_choice_b143 (w : qcW) (rc : qcRc) (I : qTI) (L : qTL) (D : qTD) (R : qTR) (x3 : Int32) (x4 : Int32) (x5 : Int32) (x6 : Int32) (x7 : Int32) (s0 : Int32) : qcO Int32 :=
  (qc_bd (fX2_fit w I L D R s0 x4) fun r1 I1 L1 D1 R1 => qc_bd (fJ9_max_7cf53 w I1 L1 D1 R1 x3 x7) fun r2 I2 L2 D2 R2 => qc_gd (qc_io w (R2 267 4) 0) <| qc_bd (fX0_convert w I2 L2 D2 R2 (R2 267 4) x7 r2) fun r4 I4 L4 D4 R4 => qc_gd (qc_io w (R4 267 4) 0) <| qc_bd (fX0_aim w I4 L4 D4 R4 (R4 267 4) x6) fun r6 I6 L6 D6 R6 => qc_gd (qc_io w (R6 267 4) 0) <| qc_bd (fX0_convertAt w I6 L6 D6 R6 (R6 267 4) x5 x3 r2) fun r8 I8 L8 D8 R8 => some (r2, I8, L8, D8, R8))
set_option maxRecDepth 100000 in
set_option maxHeartbeats 4000000 in
theorem tX2_choice_b143 {w : qcW} {rc : qcRc} {dr : Nat} {I : qTI} {L : qTL} {D : qTD} {R : qTR} {x3 : Int32} {x4 : Int32} {x5 : Int32} {x6 : Int32} {x7 : Int32} {s0 : Int32} {r : Int32} {I' : qTI} {L' : qTL} {D' : qTD} {R' : qTR} (hn : qcNF ≤ w.1) (hb : qcRB ≤ dr) (hrc : qcHrc w rc dr) (hR : qc_FR R) (h : fX2_choice_b143 w rc I L D R x3 x4 x5 x6 x7 s0 = some (r, I', L', D', R')) : qc_fm qcSX (I, L, D, R) (I', L', D', R') ∧ qc_X (qc_rm (dr + 1) 0 0) qmX2_choice (qc_QM 0 0 (qc_eq (some (.int r)) w (I', L', D', R'))) 0 0 w (143, [(0, .ref 267), (3, .int x3), (4, .int x4), (5, .int x5), (6, .int x6), (7, .int x7)], [.int s0, .ref 267], I, L, D, R) := by
  unfold fX2_choice_b143 at h
  refine And.imp_right (fun hx => qc_iload (qc_at qkX2_choice 70 rfl) rfl <| hx) ?_
  obtain ⟨r1, I1, L1, D1, R1, e1, h⟩ := qc_bd_of h
  have c1 := (tX2_fit hn hR e1)
  refine qd_cVn (ci := 2) (a0 := 267) (qc_at qkX2_choice 71 rfl) ql_2_116 qfX2_fit (qc_kf hn rfl) rfl c1 rfl rfl (Nat.le_of_ble_eq_true rfl) (qc_rml (Nat.le_trans (by decide) hb) (by decide)) ⟨Nat.zero_le _, Nat.zero_le _⟩ ?_
  refine And.imp_right (fun hx => qc_iload_n (qc_at qkX2_choice 72 rfl) rfl <| qc_iload (qc_at qkX2_choice 73 rfl) rfl <| hx) ?_
  obtain ⟨r2, I2, L2, D2, R2, e2, h⟩ := qc_bd_of h
  have c2 := (tJ9_max_7cf53 (sd := qcSX) hn (c1.1.1 hR) e2)
  refine qd_cSv (qc_at qkX2_choice 74 rfl) ql_2_240 qfJ9_max_7cf53 c2 rfl rfl (Nat.le_of_ble_eq_true rfl) (qc_rml (Nat.le_trans (by decide) hb) (by decide)) ⟨Nat.zero_le _, Nat.zero_le _⟩ ?_
  refine And.imp_right (fun hx => qc_istore (lv' := [(8, _), (0, _), (3, _), (4, _), (5, _), (6, _), (7, _)]) (qc_at qkX2_choice 75 rfl) rfl rfl <| qc_aload_n (qc_at qkX2_choice 76 rfl) rfl <| hx) ?_
  obtain ⟨g3, h⟩ := qc_gd_of h
  replace g3 := qc_io_of g3
  refine And.imp_right (fun hx => qc_gR (qc_at qkX2_choice 77 rfl) hn rfl rfl (qc_ki255 g3) <| qc_iload (qc_at qkX2_choice 78 rfl) rfl <| qc_iload (qc_at qkX2_choice 79 rfl) rfl <| hx) ?_
  obtain ⟨r4, I4, L4, D4, R4, e4, h⟩ := qc_bd_of h
  have c4 := (tX0_convert hn (c2.1.1 (c1.1.1 hR)) e4)
  refine qd_cVn (ci := 0) (qc_at qkX2_choice 80 rfl) ql_2_177 qfX0_convert g3 rfl c4 rfl rfl (Nat.le_of_ble_eq_true rfl) (qc_rml (Nat.le_trans (by decide) hb) (by decide)) ⟨Nat.zero_le _, Nat.zero_le _⟩ ?_
  refine And.imp_right (fun hx => qc_aload_n (qc_at qkX2_choice 81 rfl) rfl <| hx) ?_
  obtain ⟨g5, h⟩ := qc_gd_of h
  replace g5 := qc_io_of g5
  refine And.imp_right (fun hx => qc_gR (qc_at qkX2_choice 82 rfl) hn rfl rfl (qc_ki255 g5) <| qc_iload (qc_at qkX2_choice 83 rfl) rfl <| hx) ?_
  obtain ⟨r6, I6, L6, D6, R6, e6, h⟩ := qc_bd_of h
  have c6 := (tX0_aim hn (c4.1.1 (c2.1.1 (c1.1.1 hR))) e6)
  refine qd_cVn (ci := 0) (qc_at qkX2_choice 84 rfl) ql_2_233 qfX0_aim g5 rfl c6 rfl rfl (Nat.le_of_ble_eq_true rfl) (qc_rml (Nat.le_trans (by decide) hb) (by decide)) ⟨Nat.zero_le _, Nat.zero_le _⟩ ?_
  refine And.imp_right (fun hx => qc_aload_n (qc_at qkX2_choice 85 rfl) rfl <| hx) ?_
  obtain ⟨g7, h⟩ := qc_gd_of h
  replace g7 := qc_io_of g7
  refine And.imp_right (fun hx => qc_gR (qc_at qkX2_choice 86 rfl) hn rfl rfl (qc_ki255 g7) <| qc_iload (qc_at qkX2_choice 87 rfl) rfl <| qc_iload_n (qc_at qkX2_choice 88 rfl) rfl <| qc_iload (qc_at qkX2_choice 89 rfl) rfl <| hx) ?_
  obtain ⟨r8, I8, L8, D8, R8, e8, h⟩ := qc_bd_of h
  have c8 := (tX0_convertAt hn (c6.1.1 (c4.1.1 (c2.1.1 (c1.1.1 hR)))) e8)
  refine qd_cVn (ci := 0) (qc_at qkX2_choice 90 rfl) ql_2_246 qfX0_convertAt g7 rfl c8 rfl rfl (Nat.le_of_ble_eq_true rfl) (qc_rml (Nat.le_trans (by decide) hb) (by decide)) ⟨Nat.zero_le _, Nat.zero_le _⟩ ?_
  obtain ⟨rfl, rfl, rfl, rfl, rfl⟩ := qc_some5 h
  exact ⟨qc_fm.rf _, qc_iload (qc_at qkX2_choice 91 rfl) rfl <| qc_iret (qc_at qkX2_choice 92 rfl) rfl (Nat.le_refl _) (Nat.le_refl _) (qc_eq.rf _ _ _)⟩
def fX2_choice_b135 (w : qcW) (rc : qcRc) (I : qTI) (L : qTL) (D : qTD) (R : qTR) (x3 : Int32) (x4 : Int32) (x5 : Int32) (x6 : Int32) (x7 : Int32) (s0 : Int32) (s1 : Int32) : qcO Int32 :=
  (if s1 = s0 then (fX2_choice_b143 w rc I L D R x3 x4 x5 x6 x7 (1 : Int32)) else (fX2_choice_b143 w rc I L D R x3 x4 x5 x6 x7 (0 : Int32)))
set_option maxRecDepth 100000 in
set_option maxHeartbeats 4000000 in
theorem tX2_choice_b135 {w : qcW} {rc : qcRc} {dr : Nat} {I : qTI} {L : qTL} {D : qTD} {R : qTR} {x3 : Int32} {x4 : Int32} {x5 : Int32} {x6 : Int32} {x7 : Int32} {s0 : Int32} {s1 : Int32} {r : Int32} {I' : qTI} {L' : qTL} {D' : qTD} {R' : qTR} (hn : qcNF ≤ w.1) (hb : qcRB ≤ dr) (hrc : qcHrc w rc dr) (hR : qc_FR R) (h : fX2_choice_b135 w rc I L D R x3 x4 x5 x6 x7 s0 s1 = some (r, I', L', D', R')) : qc_fm qcSX (I, L, D, R) (I', L', D', R') ∧ qc_X (qc_rm (dr + 1) 0 0) qmX2_choice (qc_QM 0 0 (qc_eq (some (.int r)) w (I', L', D', R'))) 0 0 w (135, [(0, .ref 267), (3, .int x3), (4, .int x4), (5, .int x5), (6, .int x6), (7, .int x7)], [.int s0, .int s1, .ref 267], I, L, D, R) := by
  unfold fX2_choice_b135 at h
  refine qc_andN (qc_icmp_ne (qc_at qkX2_choice 66 rfl)) (fun u9 => ?_) (fun u9 => ?_)
  · replace h := qc_jn u9 h
    exact And.imp_right (fun hx => qc_iconst (qc_at qkX2_choice 69 rfl) <| qc_sub [0, 1, 2, 3, 4, 5] rfl hx) (tX2_choice_b143 hn hb hrc hR h)
  · replace h := qc_jp u9 h
    exact And.imp_right (fun hx => qc_iconst (qc_at qkX2_choice 67 rfl) <| qc_goto (qc_at qkX2_choice 68 rfl) <| qc_sub [0, 1, 2, 3, 4, 5] rfl hx) (tX2_choice_b143 hn hb hrc hR h)
def fX2_choice_b125 (w : qcW) (rc : qcRc) (I : qTI) (L : qTL) (D : qTD) (R : qTR) (x3 : Int32) (x4 : Int32) (x5 : Int32) (x6 : Int32) (x7 : Int32) (s0 : Int32) : qcO Int32 :=
  (if x7 = 0 then (fX2_choice_b135 w rc I L D R x3 x4 x5 x6 x7 (1 : Int32) s0) else (fX2_choice_b135 w rc I L D R x3 x4 x5 x6 x7 (0 : Int32) s0))
set_option maxRecDepth 100000 in
set_option maxHeartbeats 4000000 in
theorem tX2_choice_b125 {w : qcW} {rc : qcRc} {dr : Nat} {I : qTI} {L : qTL} {D : qTD} {R : qTR} {x3 : Int32} {x4 : Int32} {x5 : Int32} {x6 : Int32} {x7 : Int32} {s0 : Int32} {r : Int32} {I' : qTI} {L' : qTL} {D' : qTD} {R' : qTR} (hn : qcNF ≤ w.1) (hb : qcRB ≤ dr) (hrc : qcHrc w rc dr) (hR : qc_FR R) (h : fX2_choice_b125 w rc I L D R x3 x4 x5 x6 x7 s0 = some (r, I', L', D', R')) : qc_fm qcSX (I, L, D, R) (I', L', D', R') ∧ qc_X (qc_rm (dr + 1) 0 0) qmX2_choice (qc_QM 0 0 (qc_eq (some (.int r)) w (I', L', D', R'))) 0 0 w (125, [(0, .ref 267), (3, .int x3), (4, .int x4), (5, .int x5), (6, .int x6), (7, .int x7)], [.int s0, .ref 267], I, L, D, R) := by
  unfold fX2_choice_b125 at h
  refine And.imp_right (fun hx => qc_iload (qc_at qkX2_choice 61 rfl) rfl <| hx) ?_
  refine qc_andN (qc_if_ne (qc_at qkX2_choice 62 rfl)) (fun u10 => ?_) (fun u10 => ?_)
  · replace h := qc_jn u10 h
    exact And.imp_right (fun hx => qc_iconst (qc_at qkX2_choice 65 rfl) <| qc_sub [0, 1, 2, 3, 4, 5] rfl hx) (tX2_choice_b135 hn hb hrc hR h)
  · replace h := qc_jp u10 h
    exact And.imp_right (fun hx => qc_iconst (qc_at qkX2_choice 63 rfl) <| qc_goto (qc_at qkX2_choice 64 rfl) <| qc_sub [0, 1, 2, 3, 4, 5] rfl hx) (tX2_choice_b135 hn hb hrc hR h)
def fX2_choice_b14 (w : qcW) (rc : qcRc) (I : qTI) (L : qTL) (D : qTD) (R : qTR) (s0 : Int32) : qcO Int32 :=
  (qc_bd (fX2_fit w I L D R s0 (I 268 2)) fun r11 I11 L11 D11 R11 => qc_bd (fX2_expect w I11 L11 D11 R11 59) fun r12 I12 L12 D12 R12 => qc_gd (qc_io w (R12 267 4) 0) <| qc_bd (fX0_addJump w I12 L12 D12 R12 (R12 267 4) (1800 : Int32)) fun r14 I14 L14 D14 R14 => qc_bd (rc 0 0 I14 L14 D14 R14) fun r15 I15 L15 D15 R15 => qc_bd (fX2_expect w I15 L15 D15 R15 60) fun r16 I16 L16 D16 R16 => qc_gd (qc_io w (R16 267 4) 0) <| qc_gd (qc_io w (R16 267 4) 0) <| qc_bd (fX0_addJump w I16 L16 D16 R16 (R16 267 4) (1802 : Int32)) fun r19 I19 L19 D19 R19 => qc_gd (qc_io w (R19 267 4) 0) <| qc_bd (fX0_aim w I19 L19 D19 R19 (R19 267 4) r14) fun r21 I21 L21 D21 R21 => qc_gd (qc_io w (R21 267 4) 0) <| qc_bd (fX0_otherWay w I21 L21 D21 R21 (R21 267 4)) fun r23 I23 L23 D23 R23 => qc_bd (rc 0 0 I23 L23 D23 R23) fun r24 I24 L24 D24 R24 => if r15 = 0 then (fX2_choice_b125 w rc (qc_u I24 267 6 ((I24 267 6) - (1 : Int32))) L24 D24 R24 r15 (I15 268 2) (I16 (R16 267 4) 2) r19 r24 (1 : Int32)) else (fX2_choice_b125 w rc (qc_u I24 267 6 ((I24 267 6) - (1 : Int32))) L24 D24 R24 r15 (I15 268 2) (I16 (R16 267 4) 2) r19 r24 (0 : Int32)))
set_option maxRecDepth 100000 in
set_option maxHeartbeats 4000000 in
theorem tX2_choice_b14 {w : qcW} {rc : qcRc} {dr : Nat} {I : qTI} {L : qTL} {D : qTD} {R : qTR} {s0 : Int32} {r : Int32} {I' : qTI} {L' : qTL} {D' : qTD} {R' : qTR} (hn : qcNF ≤ w.1) (hb : qcRB ≤ dr) (hrc : qcHrc w rc dr) (hR : qc_FR R) (h : fX2_choice_b14 w rc I L D R s0 = some (r, I', L', D', R')) : qc_fm qcSX (I, L, D, R) (I', L', D', R') ∧ qc_X (qc_rm (dr + 1) 0 0) qmX2_choice (qc_QM 0 0 (qc_eq (some (.int r)) w (I', L', D', R'))) 0 0 w (14, [(0, .ref 267)], [.int s0, .ref 267], I, L, D, R) := by
  unfold fX2_choice_b14 at h
  refine And.imp_right (fun hx => qc_aload_n (qc_at qkX2_choice 8 rfl) rfl <| qc_gR (qc_at qkX2_choice 9 rfl) hn rfl (qfr_267_0 hR) rfl <| qc_gI (qc_at qkX2_choice 10 rfl) hn rfl <| hx) ?_
  obtain ⟨r11, I11, L11, D11, R11, e11, h⟩ := qc_bd_of h
  have c11 := (tX2_fit hn hR e11)
  refine qd_cVn (ci := 2) (a0 := 267) (qc_at qkX2_choice 11 rfl) ql_2_116 qfX2_fit (qc_kf hn rfl) rfl c11 rfl rfl (Nat.le_of_ble_eq_true rfl) (qc_rml (Nat.le_trans (by decide) hb) (by decide)) ⟨Nat.zero_le _, Nat.zero_le _⟩ ?_
  refine And.imp_right (fun hx => qc_aload_n (qc_at qkX2_choice 12 rfl) rfl <| qc_gS (qc_at qkX2_choice 13 rfl) rfl <| hx) ?_
  obtain ⟨r12, I12, L12, D12, R12, e12, h⟩ := qc_bd_of h
  have c12 := (tX2_expect hn (c11.1.1 hR) e12)
  refine qd_cVn (ci := 2) (a0 := 267) (qc_at qkX2_choice 14 rfl) ql_2_89 qfX2_expect (qc_kf hn rfl) rfl c12 rfl rfl (Nat.le_of_ble_eq_true rfl) (qc_rml (Nat.le_trans (by decide) hb) (by decide)) ⟨Nat.zero_le _, Nat.zero_le _⟩ ?_
  refine And.imp_right (fun hx => qc_aload_n (qc_at qkX2_choice 15 rfl) rfl <| hx) ?_
  obtain ⟨g13, h⟩ := qc_gd_of h
  replace g13 := qc_io_of g13
  refine And.imp_right (fun hx => qc_gR (qc_at qkX2_choice 16 rfl) hn rfl rfl (qc_ki255 g13) <| qc_sipush (qc_at qkX2_choice 17 rfl) <| hx) ?_
  obtain ⟨r14, I14, L14, D14, R14, e14, h⟩ := qc_bd_of h
  have c14 := (tX0_addJump hn (c12.1.1 (c11.1.1 hR)) e14)
  refine qd_cVv (ci := 0) (qc_at qkX2_choice 18 rfl) ql_2_224 qfX0_addJump g13 rfl c14 rfl rfl (Nat.le_of_ble_eq_true rfl) (qc_rml (Nat.le_trans (by decide) hb) (by decide)) ⟨Nat.zero_le _, Nat.zero_le _⟩ ?_
  refine And.imp_right (fun hx => qc_istore_n (lv' := [(2, _), (0, _)]) (qc_at qkX2_choice 19 rfl) rfl rfl <| qc_aload_n (qc_at qkX2_choice 20 rfl) rfl <| hx) ?_
  obtain ⟨r15, I15, L15, D15, R15, e15, h⟩ := qc_bd_of h
  have c15 := (qd_rc0 hrc (c14.1.1 (c12.1.1 (c11.1.1 hR))) e15)
  refine qd_cVv (ci := 2) (a0 := 267) (qc_at qkX2_choice 21 rfl) ql_2_105 qfX2_sum (qc_kf hn rfl) rfl c15 rfl rfl (Nat.le_of_ble_eq_true rfl) (qc_rml (Nat.le_refl _) (by decide)) ⟨Nat.zero_le _, Nat.zero_le _⟩ ?_
  refine And.imp_right (fun hx => qc_istore_n (lv' := [(3, _), (2, _), (0, _)]) (qc_at qkX2_choice 22 rfl) rfl rfl <| qc_aload_n (qc_at qkX2_choice 23 rfl) rfl <| qc_gR (qc_at qkX2_choice 24 rfl) hn rfl (qfr_267_0 (c15.1.1 (c14.1.1 (c12.1.1 (c11.1.1 hR))))) rfl <| qc_gI (qc_at qkX2_choice 25 rfl) hn rfl <| qc_istore (lv' := [(4, _), (3, _), (2, _), (0, _)]) (qc_at qkX2_choice 26 rfl) rfl rfl <| qc_aload_n (qc_at qkX2_choice 27 rfl) rfl <| qc_gS (qc_at qkX2_choice 28 rfl) rfl <| hx) ?_
  obtain ⟨r16, I16, L16, D16, R16, e16, h⟩ := qc_bd_of h
  have c16 := (tX2_expect hn (c15.1.1 (c14.1.1 (c12.1.1 (c11.1.1 hR)))) e16)
  refine qd_cVn (ci := 2) (a0 := 267) (qc_at qkX2_choice 29 rfl) ql_2_89 qfX2_expect (qc_kf hn rfl) rfl c16 rfl rfl (Nat.le_of_ble_eq_true rfl) (qc_rml (Nat.le_trans (by decide) hb) (by decide)) ⟨Nat.zero_le _, Nat.zero_le _⟩ ?_
  refine And.imp_right (fun hx => qc_aload_n (qc_at qkX2_choice 30 rfl) rfl <| hx) ?_
  obtain ⟨g17, h⟩ := qc_gd_of h
  replace g17 := qc_io_of g17
  refine And.imp_right (fun hx => qc_gR (qc_at qkX2_choice 31 rfl) hn rfl rfl (qc_ki255 g17) <| qc_gId (qc_at qkX2_choice 32 rfl) g17 rfl <| qc_istore (lv' := [(5, _), (4, _), (3, _), (2, _), (0, _)]) (qc_at qkX2_choice 33 rfl) rfl rfl <| qc_aload_n (qc_at qkX2_choice 34 rfl) rfl <| hx) ?_
  obtain ⟨g18, h⟩ := qc_gd_of h
  replace g18 := qc_io_of g18
  refine And.imp_right (fun hx => qc_gR (qc_at qkX2_choice 35 rfl) hn rfl rfl (qc_ki255 g18) <| qc_sipush (qc_at qkX2_choice 36 rfl) <| hx) ?_
  obtain ⟨r19, I19, L19, D19, R19, e19, h⟩ := qc_bd_of h
  have c19 := (tX0_addJump hn (c16.1.1 (c15.1.1 (c14.1.1 (c12.1.1 (c11.1.1 hR))))) e19)
  refine qd_cVv (ci := 0) (qc_at qkX2_choice 37 rfl) ql_2_224 qfX0_addJump g18 rfl c19 rfl rfl (Nat.le_of_ble_eq_true rfl) (qc_rml (Nat.le_trans (by decide) hb) (by decide)) ⟨Nat.zero_le _, Nat.zero_le _⟩ ?_
  refine And.imp_right (fun hx => qc_istore (lv' := [(6, _), (5, _), (4, _), (3, _), (2, _), (0, _)]) (qc_at qkX2_choice 38 rfl) rfl rfl <| qc_aload_n (qc_at qkX2_choice 39 rfl) rfl <| hx) ?_
  obtain ⟨g20, h⟩ := qc_gd_of h
  replace g20 := qc_io_of g20
  refine And.imp_right (fun hx => qc_gR (qc_at qkX2_choice 40 rfl) hn rfl rfl (qc_ki255 g20) <| qc_iload_n (qc_at qkX2_choice 41 rfl) rfl <| hx) ?_
  obtain ⟨r21, I21, L21, D21, R21, e21, h⟩ := qc_bd_of h
  have c21 := (tX0_aim hn (c19.1.1 (c16.1.1 (c15.1.1 (c14.1.1 (c12.1.1 (c11.1.1 hR)))))) e21)
  refine qd_cVn (ci := 0) (qc_at qkX2_choice 42 rfl) ql_2_233 qfX0_aim g20 rfl c21 rfl rfl (Nat.le_of_ble_eq_true rfl) (qc_rml (Nat.le_trans (by decide) hb) (by decide)) ⟨Nat.zero_le _, Nat.zero_le _⟩ ?_
  refine And.imp_right (fun hx => qc_aload_n (qc_at qkX2_choice 43 rfl) rfl <| hx) ?_
  obtain ⟨g22, h⟩ := qc_gd_of h
  replace g22 := qc_io_of g22
  refine And.imp_right (fun hx => qc_gR (qc_at qkX2_choice 44 rfl) hn rfl rfl (qc_ki255 g22) <| hx) ?_
  obtain ⟨r23, I23, L23, D23, R23, e23, h⟩ := qc_bd_of h
  have c23 := (tX0_otherWay hn (c21.1.1 (c19.1.1 (c16.1.1 (c15.1.1 (c14.1.1 (c12.1.1 (c11.1.1 hR))))))) e23)
  refine qd_cVn (ci := 0) (qc_at qkX2_choice 45 rfl) ql_2_237 qfX0_otherWay g22 rfl c23 rfl rfl (Nat.le_of_ble_eq_true rfl) (qc_rml (Nat.le_trans (by decide) hb) (by decide)) ⟨Nat.zero_le _, Nat.zero_le _⟩ ?_
  refine And.imp_right (fun hx => qc_aload_n (qc_at qkX2_choice 46 rfl) rfl <| hx) ?_
  obtain ⟨r24, I24, L24, D24, R24, e24, h⟩ := qc_bd_of h
  have c24 := (qd_rc0 hrc (c23.1.1 (c21.1.1 (c19.1.1 (c16.1.1 (c15.1.1 (c14.1.1 (c12.1.1 (c11.1.1 hR)))))))) e24)
  refine qd_cVv (ci := 2) (a0 := 267) (qc_at qkX2_choice 47 rfl) ql_2_105 qfX2_sum (qc_kf hn rfl) rfl c24 rfl rfl (Nat.le_of_ble_eq_true rfl) (qc_rml (Nat.le_refl _) (by decide)) ⟨Nat.zero_le _, Nat.zero_le _⟩ ?_
  refine And.imp_right (fun hx => qc_istore (lv' := [(7, _), (6, _), (5, _), (4, _), (3, _), (2, _), (0, _)]) (qc_at qkX2_choice 48 rfl) rfl rfl <| qc_aload_n (qc_at qkX2_choice 49 rfl) rfl <| qc_dup (qc_at qkX2_choice 50 rfl) rfl <| qc_gI (qc_at qkX2_choice 51 rfl) hn rfl <| qc_iconst (qc_at qkX2_choice 52 rfl) <| qc_isub (qc_at qkX2_choice 53 rfl) <| hx) (qd_pI (qc_at qkX2_choice 54 rfl) hn rfl rfl ?_)
  refine And.imp_right (fun hx => qc_aload_n (qc_at qkX2_choice 55 rfl) rfl <| qc_iload_n (qc_at qkX2_choice 56 rfl) rfl <| hx) ?_
  refine qc_andN (qc_if_ne (qc_at qkX2_choice 57 rfl)) (fun u25 => ?_) (fun u25 => ?_)
  · replace h := qc_jn u25 h
    exact And.imp_right (fun hx => qc_iconst (qc_at qkX2_choice 60 rfl) <| qc_sub [6, 4, 3, 2, 1, 0] rfl hx) (tX2_choice_b125 hn hb hrc (c24.1.1 (c23.1.1 (c21.1.1 (c19.1.1 (c16.1.1 (c15.1.1 (c14.1.1 (c12.1.1 (c11.1.1 hR))))))))) h)
  · replace h := qc_jp u25 h
    exact And.imp_right (fun hx => qc_iconst (qc_at qkX2_choice 58 rfl) <| qc_goto (qc_at qkX2_choice 59 rfl) <| qc_sub [6, 4, 3, 2, 1, 0] rfl hx) (tX2_choice_b125 hn hb hrc (c24.1.1 (c23.1.1 (c21.1.1 (c19.1.1 (c16.1.1 (c15.1.1 (c14.1.1 (c12.1.1 (c11.1.1 hR))))))))) h)
def fX2_choice (w : qcW) (rc : qcRc) (I : qTI) (L : qTL) (D : qTD) (R : qTR) (x1 : Int32) : qcO Int32 :=
  (qc_bd (fX2_openOne w I L D R) fun r26 I26 L26 D26 R26 => if x1 = 0 then (fX2_choice_b14 w rc I26 L26 D26 R26 (1 : Int32)) else (fX2_choice_b14 w rc I26 L26 D26 R26 (0 : Int32)))
set_option maxRecDepth 100000 in
set_option maxHeartbeats 4000000 in
theorem tX2_choice {w : qcW} {rc : qcRc} {dr : Nat} {I : qTI} {L : qTL} {D : qTD} {R : qTR} {x1 : Int32} {r : Int32} {I' : qTI} {L' : qTL} {D' : qTD} {R' : qTR} (hn : qcNF ≤ w.1) (hb : qcRB ≤ dr) (hrc : qcHrc w rc dr) (hR : qc_FR R) (h : fX2_choice w rc I L D R x1 = some (r, I', L', D', R')) : qc_fm qcSX (I, L, D, R) (I', L', D', R') ∧ qc_V (dr + 1) 0 0 qmX2_choice [.ref 267, .int x1] w (I, L, D, R) (qc_eq (some (.int r)) w (I', L', D', R')) := by
  unfold fX2_choice at h
  refine And.imp_right (fun hx => qc_V.of rfl rfl (Nat.le_of_ble_eq_true rfl) (lv := [(0, .ref 267), (1, .int x1)]) rfl hx) ?_
  refine And.imp_right (fun hx => qc_aload_n (qc_at qkX2_choice 0 rfl) rfl <| hx) ?_
  obtain ⟨r26, I26, L26, D26, R26, e26, h⟩ := qc_bd_of h
  have c26 := (tX2_openOne hn hR e26)
  refine qd_cVn (ci := 2) (a0 := 267) (qc_at qkX2_choice 1 rfl) ql_2_221 qfX2_openOne (qc_kf hn rfl) rfl c26 rfl rfl (Nat.le_of_ble_eq_true rfl) (qc_rml (Nat.le_trans (by decide) hb) (by decide)) ⟨Nat.zero_le _, Nat.zero_le _⟩ ?_
  refine And.imp_right (fun hx => qc_aload_n (qc_at qkX2_choice 2 rfl) rfl <| qc_iload_n (qc_at qkX2_choice 3 rfl) rfl <| hx) ?_
  refine qc_andN (qc_if_ne (qc_at qkX2_choice 4 rfl)) (fun u27 => ?_) (fun u27 => ?_)
  · replace h := qc_jn u27 h
    exact And.imp_right (fun hx => qc_iconst (qc_at qkX2_choice 7 rfl) <| qc_sub [0] rfl hx) (tX2_choice_b14 hn hb hrc (c26.1.1 hR) h)
  · replace h := qc_jp u27 h
    exact And.imp_right (fun hx => qc_iconst (qc_at qkX2_choice 5 rfl) <| qc_goto (qc_at qkX2_choice 6 rfl) <| qc_sub [0] rfl hx) (tX2_choice_b14 hn hb hrc (c26.1.1 hR) h)
def fX2_joined_b189 (w : qcW) (rc : qcRc) (k39 : qTI × qTL × qTD × qTR × Int32 × Int32 × Int32 × Int32 → qcO Int32) (I : qTI) (L : qTL) (D : qTD) (R : qTR) (x1 : Int32) (x2 : Int32) (x4 : Int32) (s0 : Int32) : qcO Int32 :=
  (k39 (I, L, D, R, x1, x2, s0, (x4 + (1))))
set_option maxRecDepth 100000 in
set_option maxHeartbeats 4000000 in
theorem tX2_joined_b189 {w : qcW} {rc : qcRc} {dr : Nat} {I : qTI} {L : qTL} {D : qTD} {R : qTR} {k39 : qTI × qTL × qTD × qTR × Int32 × Int32 × Int32 × Int32 → qcO Int32} {x1 : Int32} {x2 : Int32} {x4 : Int32} {s0 : Int32} {r : Int32} {I' : qTI} {L' : qTL} {D' : qTD} {R' : qTR} (hn : qcNF ≤ w.1) (hb : qcRB ≤ dr) (hrc : qcHrc w rc dr) (hR : qc_FR R) (hk39 : ∀ {I : qTI} {L : qTL} {D : qTD} {R : qTR} {x1 : Int32} {x2 : Int32} {x3 : Int32} {x4 : Int32} {r : Int32} {I' : qTI} {L' : qTL} {D' : qTD} {R' : qTR}, qc_FR R → k39 (I, L, D, R, x1, x2, x3, x4) = some (r, I', L', D', R') → qc_fm qcSX (I, L, D, R) (I', L', D', R') ∧ qc_X (qc_rm (dr + 1) 0 0) qmX2_joined (qc_QM 0 0 (qc_eq (some (.int r)) w (I', L', D', R'))) 0 0 w (39, [(0, .ref 267), (1, .int x1), (2, .int x2), (3, .int x3), (4, .int x4)], [], I, L, D, R)) (h : fX2_joined_b189 w rc k39 I L D R x1 x2 x4 s0 = some (r, I', L', D', R')) : qc_fm qcSX (I, L, D, R) (I', L', D', R') ∧ qc_X (qc_rm (dr + 1) 0 0) qmX2_joined (qc_QM 0 0 (qc_eq (some (.int r)) w (I', L', D', R'))) 0 0 w (189, [(0, .ref 267), (1, .int x1), (2, .int x2), (4, .int x4)], [.int s0], I, L, D, R) := by
  unfold fX2_joined_b189 at h
  exact And.imp_right (fun hx => qc_istore_n (lv' := [(3, _), (0, _), (1, _), (2, _), (4, _)]) (qc_at qkX2_joined 92 rfl) rfl rfl <| qc_iinc (lv' := [(4, _), (3, _), (0, _), (1, _), (2, _)]) (qc_at qkX2_joined 93 rfl) rfl rfl rfl <| qc_goto (qc_at qkX2_joined 94 rfl) <| qc_sub [2, 3, 4, 1, 0] rfl hx) (hk39 hR h)
def fX2_joined_b124 (w : qcW) (rc : qcRc) (k39 : qTI × qTL × qTD × qTR × Int32 × Int32 × Int32 × Int32 → qcO Int32) (I : qTI) (L : qTL) (D : qTD) (R : qTR) (x1 : Int32) (x2 : Int32) (x3 : Int32) (x4 : Int32) (x5 : Nat) (x6 : Int32) (x7 : Int32) : qcO Int32 :=
  (qc_gd (qc_l62 x5) <| (qc_bd (fX9_take w I L D R) fun r2 I2 L2 D2 R2 => qc_bd (rc 2 ((qc_mfV 0 x5) + (1 : Int32)) I2 L2 D2 R2) fun r3 I3 L3 D3 R3 => qc_bd (fX2_fits w I3 L3 D3 R3 x5 x3 r3) fun r4 I4 L4 D4 R4 => qc_bd (fX2_fit w I4 L4 D4 R4 (qc_b r4) x6) fun r5 I5 L5 D5 R5 => if (1 : Int32) < (qc_mfV 0 x5) then (qc_bd (fX2_joinValues w I5 L5 D5 R5 x5 x7 x3 r3) fun r7 I7 L7 D7 R7 => fX2_joined_b189 w rc k39 I7 L7 D7 R7 x1 x2 x4 r7) else (qc_bd (fX2_joinTruths w I5 L5 D5 R5 x5 x7) fun r8 I8 L8 D8 R8 => fX2_joined_b189 w rc k39 I8 L8 D8 R8 x1 x2 x4 r8)))
set_option maxRecDepth 100000 in
set_option maxHeartbeats 4000000 in
theorem tX2_joined_b124 {w : qcW} {rc : qcRc} {dr : Nat} {I : qTI} {L : qTL} {D : qTD} {R : qTR} {k39 : qTI × qTL × qTD × qTR × Int32 × Int32 × Int32 × Int32 → qcO Int32} {x1 : Int32} {x2 : Int32} {x3 : Int32} {x4 : Int32} {x5 : Nat} {x6 : Int32} {x7 : Int32} {r : Int32} {I' : qTI} {L' : qTL} {D' : qTD} {R' : qTR} (hn : qcNF ≤ w.1) (hb : qcRB ≤ dr) (hrc : qcHrc w rc dr) (hR : qc_FR R) (hk39 : ∀ {I : qTI} {L : qTL} {D : qTD} {R : qTR} {x1 : Int32} {x2 : Int32} {x3 : Int32} {x4 : Int32} {r : Int32} {I' : qTI} {L' : qTL} {D' : qTD} {R' : qTR}, qc_FR R → k39 (I, L, D, R, x1, x2, x3, x4) = some (r, I', L', D', R') → qc_fm qcSX (I, L, D, R) (I', L', D', R') ∧ qc_X (qc_rm (dr + 1) 0 0) qmX2_joined (qc_QM 0 0 (qc_eq (some (.int r)) w (I', L', D', R'))) 0 0 w (39, [(0, .ref 267), (1, .int x1), (2, .int x2), (3, .int x3), (4, .int x4)], [], I, L, D, R)) (h : fX2_joined_b124 w rc k39 I L D R x1 x2 x3 x4 x5 x6 x7 = some (r, I', L', D', R')) : qc_fm qcSX (I, L, D, R) (I', L', D', R') ∧ qc_X (qc_rm (dr + 1) 0 0) qmX2_joined (qc_QM 0 0 (qc_eq (some (.int r)) w (I', L', D', R'))) 0 0 w (124, [(0, .ref 267), (1, .int x1), (2, .int x2), (3, .int x3), (4, .int x4), (5, .ref x5), (6, .int x6), (7, .int x7)], [], I, L, D, R) := by
  unfold fX2_joined_b124 at h
  obtain ⟨g1, h⟩ := qc_gd_of h
  replace g1 := qc_l62_of g1
  refine And.imp_right (fun hx => qc_aload_n (qc_at qkX2_joined 60 rfl) rfl <| qc_gR (qc_at qkX2_joined 61 rfl) hn rfl (qfr_267_0 hR) rfl <| hx) ?_
  obtain ⟨r2, I2, L2, D2, R2, e2, h⟩ := qc_bd_of h
  have c2 := (tX9_take hn hR e2)
  refine qd_cVn (ci := 7) (a0 := 268) (qc_at qkX2_joined 62 rfl) ql_2_195 qfX9_take (qc_kf hn rfl) rfl c2 rfl rfl (Nat.le_of_ble_eq_true rfl) (qc_rml (Nat.le_trans (by decide) hb) (by decide)) ⟨Nat.zero_le _, Nat.zero_le _⟩ ?_
  refine And.imp_right (fun hx => qc_aload_n (qc_at qkX2_joined 63 rfl) rfl <| qc_aload (qc_at qkX2_joined 64 rfl) rfl <| qc_gM (qc_at qkX2_joined 65 rfl) g1 <| qc_iconst (qc_at qkX2_joined 66 rfl) <| qc_iadd (qc_at qkX2_joined 67 rfl) <| hx) ?_
  obtain ⟨r3, I3, L3, D3, R3, e3, h⟩ := qc_bd_of h
  have c3 := (qd_rc2 hrc (c2.1.1 hR) e3)
  refine qd_cVv (ci := 2) (a0 := 267) (qc_at qkX2_joined 68 rfl) ql_2_173 qfX2_joined (qc_kf hn rfl) rfl c3 rfl rfl (Nat.le_of_ble_eq_true rfl) (qc_rml (Nat.le_refl _) (by decide)) ⟨Nat.zero_le _, Nat.zero_le _⟩ ?_
  refine And.imp_right (fun hx => qc_istore (lv' := [(8, _), (0, _), (1, _), (2, _), (3, _), (4, _), (5, _), (6, _), (7, _)]) (qc_at qkX2_joined 69 rfl) rfl rfl <| qc_aload_n (qc_at qkX2_joined 70 rfl) rfl <| qc_aload (qc_at qkX2_joined 71 rfl) rfl <| qc_iload_n (qc_at qkX2_joined 72 rfl) rfl <| qc_iload (qc_at qkX2_joined 73 rfl) rfl <| hx) ?_
  obtain ⟨r4, I4, L4, D4, R4, e4, h⟩ := qc_bd_of h
  have c4 := (tX2_fits hn (c3.1.1 (c2.1.1 hR)) e4)
  refine qd_cSv (qc_at qkX2_joined 74 rfl) ql_2_269 qfX2_fits c4 rfl rfl (Nat.le_of_ble_eq_true rfl) (qc_rml (Nat.le_trans (by decide) hb) (by decide)) ⟨Nat.zero_le _, Nat.zero_le _⟩ ?_
  refine And.imp_right (fun hx => qc_iload (qc_at qkX2_joined 75 rfl) rfl <| hx) ?_
  obtain ⟨r5, I5, L5, D5, R5, e5, h⟩ := qc_bd_of h
  have c5 := (tX2_fit hn (c4.1.1 (c3.1.1 (c2.1.1 hR))) e5)
  refine qd_cVn (ci := 2) (a0 := 267) (qc_at qkX2_joined 76 rfl) ql_2_116 qfX2_fit (qc_kf hn rfl) rfl c5 rfl rfl (Nat.le_of_ble_eq_true rfl) (qc_rml (Nat.le_trans (by decide) hb) (by decide)) ⟨Nat.zero_le _, Nat.zero_le _⟩ ?_
  refine And.imp_right (fun hx => qc_aload (qc_at qkX2_joined 77 rfl) rfl <| qc_gM (qc_at qkX2_joined 78 rfl) g1 <| qc_iconst (qc_at qkX2_joined 79 rfl) <| hx) ?_
  refine qc_andC (qc_icmp_gt (qc_at qkX2_joined 80 rfl)) (fun u6 => ?_) (fun u6 => ?_)
  · replace h := qc_jp u6 h
    refine And.imp_right (fun hx => qc_aload_n (qc_at qkX2_joined 86 rfl) rfl <| qc_aload (qc_at qkX2_joined 87 rfl) rfl <| qc_iload (qc_at qkX2_joined 88 rfl) rfl <| qc_iload_n (qc_at qkX2_joined 89 rfl) rfl <| qc_iload (qc_at qkX2_joined 90 rfl) rfl <| hx) ?_
    obtain ⟨r7, I7, L7, D7, R7, e7, h⟩ := qc_bd_of h
    have c7 := (tX2_joinValues hn (c5.1.1 (c4.1.1 (c3.1.1 (c2.1.1 hR)))) e7)
    refine qd_cVv (ci := 2) (a0 := 267) (qc_at qkX2_joined 91 rfl) ql_2_277 qfX2_joinValues (qc_kf hn rfl) rfl c7 rfl rfl (Nat.le_of_ble_eq_true rfl) (qc_rml (Nat.le_trans (by decide) hb) (by decide)) ⟨Nat.zero_le _, Nat.zero_le _⟩ ?_
    exact And.imp_right (fun hx => qc_sub [1, 2, 3, 5] rfl hx) (tX2_joined_b189 hn hb hrc (c7.1.1 (c5.1.1 (c4.1.1 (c3.1.1 (c2.1.1 hR))))) hk39 h)
  · replace h := qc_jn u6 h
    refine And.imp_right (fun hx => qc_aload_n (qc_at qkX2_joined 81 rfl) rfl <| qc_aload (qc_at qkX2_joined 82 rfl) rfl <| qc_iload (qc_at qkX2_joined 83 rfl) rfl <| hx) ?_
    obtain ⟨r8, I8, L8, D8, R8, e8, h⟩ := qc_bd_of h
    have c8 := (tX2_joinTruths hn (c5.1.1 (c4.1.1 (c3.1.1 (c2.1.1 hR)))) e8)
    refine qd_cVv (ci := 2) (a0 := 267) (qc_at qkX2_joined 84 rfl) ql_2_273 qfX2_joinTruths (qc_kf hn rfl) rfl c8 rfl rfl (Nat.le_of_ble_eq_true rfl) (qc_rml (Nat.le_trans (by decide) hb) (by decide)) ⟨Nat.zero_le _, Nat.zero_le _⟩ ?_
    exact And.imp_right (fun hx => qc_goto (qc_at qkX2_joined 85 rfl) <| qc_sub [1, 2, 3, 5] rfl hx) (tX2_joined_b189 hn hb hrc (c8.1.1 (c5.1.1 (c4.1.1 (c3.1.1 (c2.1.1 hR))))) hk39 h)
def fX2_joined_b92 (w : qcW) (rc : qcRc) (k39 : qTI × qTL × qTD × qTR × Int32 × Int32 × Int32 × Int32 → qcO Int32) (I : qTI) (L : qTL) (D : qTD) (R : qTR) (x1 : Int32) (x3 : Int32) (x4 : Int32) (x5 : Nat) (x6 : Int32) (s0 : Int32) : qcO Int32 :=
  (qc_gd (qc_l62 x5) <| (qc_gd (qc_io w (R 267 4) 0) <| if (1 : Int32) < (qc_mfV 0 x5) then (fX2_joined_b124 w rc k39 I L D R x1 s0 x3 x4 x5 x6 (I (R 267 4) 2)) else (qc_gd (qc_io w (R 267 4) 0) <| qc_bd (fX0_addJump w I L D R (R 267 4) (qc_mfV 1 x5)) fun r13 I13 L13 D13 R13 => fX2_joined_b124 w rc k39 I13 L13 D13 R13 x1 s0 x3 x4 x5 x6 (I (R 267 4) 2))))
set_option maxRecDepth 100000 in
set_option maxHeartbeats 4000000 in
theorem tX2_joined_b92 {w : qcW} {rc : qcRc} {dr : Nat} {I : qTI} {L : qTL} {D : qTD} {R : qTR} {k39 : qTI × qTL × qTD × qTR × Int32 × Int32 × Int32 × Int32 → qcO Int32} {x1 : Int32} {x3 : Int32} {x4 : Int32} {x5 : Nat} {x6 : Int32} {s0 : Int32} {r : Int32} {I' : qTI} {L' : qTL} {D' : qTD} {R' : qTR} (hn : qcNF ≤ w.1) (hb : qcRB ≤ dr) (hrc : qcHrc w rc dr) (hR : qc_FR R) (hk39 : ∀ {I : qTI} {L : qTL} {D : qTD} {R : qTR} {x1 : Int32} {x2 : Int32} {x3 : Int32} {x4 : Int32} {r : Int32} {I' : qTI} {L' : qTL} {D' : qTD} {R' : qTR}, qc_FR R → k39 (I, L, D, R, x1, x2, x3, x4) = some (r, I', L', D', R') → qc_fm qcSX (I, L, D, R) (I', L', D', R') ∧ qc_X (qc_rm (dr + 1) 0 0) qmX2_joined (qc_QM 0 0 (qc_eq (some (.int r)) w (I', L', D', R'))) 0 0 w (39, [(0, .ref 267), (1, .int x1), (2, .int x2), (3, .int x3), (4, .int x4)], [], I, L, D, R)) (h : fX2_joined_b92 w rc k39 I L D R x1 x3 x4 x5 x6 s0 = some (r, I', L', D', R')) : qc_fm qcSX (I, L, D, R) (I', L', D', R') ∧ qc_X (qc_rm (dr + 1) 0 0) qmX2_joined (qc_QM 0 0 (qc_eq (some (.int r)) w (I', L', D', R'))) 0 0 w (92, [(0, .ref 267), (1, .int x1), (3, .int x3), (4, .int x4), (5, .ref x5), (6, .int x6)], [.int s0], I, L, D, R) := by
  unfold fX2_joined_b92 at h
  obtain ⟨g9, h⟩ := qc_gd_of h
  replace g9 := qc_l62_of g9
  refine And.imp_right (fun hx => qc_istore_n (lv' := [(2, _), (0, _), (1, _), (3, _), (4, _), (5, _), (6, _)]) (qc_at qkX2_joined 45 rfl) rfl rfl <| qc_aload_n (qc_at qkX2_joined 46 rfl) rfl <| hx) ?_
  obtain ⟨g10, h⟩ := qc_gd_of h
  replace g10 := qc_io_of g10
  refine And.imp_right (fun hx => qc_gR (qc_at qkX2_joined 47 rfl) hn rfl rfl (qc_ki255 g10) <| qc_gId (qc_at qkX2_joined 48 rfl) g10 rfl <| qc_istore (lv' := [(7, _), (2, _), (0, _), (1, _), (3, _), (4, _), (5, _), (6, _)]) (qc_at qkX2_joined 49 rfl) rfl rfl <| qc_aload (qc_at qkX2_joined 50 rfl) rfl <| qc_gM (qc_at qkX2_joined 51 rfl) g9 <| qc_iconst (qc_at qkX2_joined 52 rfl) <| hx) ?_
  refine qc_andC (qc_icmp_gt (qc_at qkX2_joined 53 rfl)) (fun u11 => ?_) (fun u11 => ?_)
  · replace h := qc_jp u11 h
    exact And.imp_right (fun hx => qc_sub [2, 3, 1, 4, 5, 6, 7, 0] rfl hx) (tX2_joined_b124 hn hb hrc hR hk39 h)
  · replace h := qc_jn u11 h
    refine And.imp_right (fun hx => qc_aload_n (qc_at qkX2_joined 54 rfl) rfl <| hx) ?_
    obtain ⟨g12, h⟩ := qc_gd_of h
    replace g12 := qc_io_of g12
    refine And.imp_right (fun hx => qc_gR (qc_at qkX2_joined 55 rfl) hn rfl rfl (qc_ki255 g12) <| qc_aload (qc_at qkX2_joined 56 rfl) rfl <| qc_gM (qc_at qkX2_joined 57 rfl) g9 <| hx) ?_
    obtain ⟨r13, I13, L13, D13, R13, e13, h⟩ := qc_bd_of h
    have c13 := (tX0_addJump hn hR e13)
    refine qd_cVv (ci := 0) (qc_at qkX2_joined 58 rfl) ql_2_224 qfX0_addJump g12 rfl c13 rfl rfl (Nat.le_of_ble_eq_true rfl) (qc_rml (Nat.le_trans (by decide) hb) (by decide)) ⟨Nat.zero_le _, Nat.zero_le _⟩ ?_
    exact And.imp_right (fun hx => qc_pop (qc_at qkX2_joined 59 rfl) rfl <| qc_sub [2, 3, 1, 4, 5, 6, 7, 0] rfl hx) (tX2_joined_b124 hn hb hrc (c13.1.1 hR) hk39 h)
def fX2_joined_b39 (w : qcW) (rc : qcRc) (k39 : qTI × qTL × qTD × qTR × Int32 × Int32 × Int32 × Int32 → qcO Int32) (I : qTI) (L : qTL) (D : qTD) (R : qTR) (x1 : Int32) (x2 : Int32) (x3 : Int32) (x4 : Int32) : qcO Int32 :=
  (if (400 : Int32) ≤ x4 then (some (x3, I, L, D, R)) else (qc_bd (fX2_isJoint w I L D R x1 x2) fun r15 I15 L15 D15 R15 => if r15 = true then (qc_gd (qc_l62 (R15 268 1)) <| if (qc_mfV 0 (R15 268 1)) = (3 : Int32) then (fX2_joined_b92 w rc k39 I15 L15 D15 R15 x1 x3 x4 (R15 268 1) (I15 268 2) (2 : Int32)) else (fX2_joined_b92 w rc k39 I15 L15 D15 R15 x1 x3 x4 (R15 268 1) (I15 268 2) (qc_mfV 0 (R15 268 1)))) else (some (x3, I15, L15, D15, R15))))
set_option maxRecDepth 100000 in
set_option maxHeartbeats 4000000 in
theorem tX2_joined_b39 {w : qcW} {rc : qcRc} {dr : Nat} {I : qTI} {L : qTL} {D : qTD} {R : qTR} {k39 : qTI × qTL × qTD × qTR × Int32 × Int32 × Int32 × Int32 → qcO Int32} {x1 : Int32} {x2 : Int32} {x3 : Int32} {x4 : Int32} {r : Int32} {I' : qTI} {L' : qTL} {D' : qTD} {R' : qTR} (hn : qcNF ≤ w.1) (hb : qcRB ≤ dr) (hrc : qcHrc w rc dr) (hR : qc_FR R) (hk39 : ∀ {I : qTI} {L : qTL} {D : qTD} {R : qTR} {x1 : Int32} {x2 : Int32} {x3 : Int32} {x4 : Int32} {r : Int32} {I' : qTI} {L' : qTL} {D' : qTD} {R' : qTR}, qc_FR R → k39 (I, L, D, R, x1, x2, x3, x4) = some (r, I', L', D', R') → qc_fm qcSX (I, L, D, R) (I', L', D', R') ∧ qc_X (qc_rm (dr + 1) 0 0) qmX2_joined (qc_QM 0 0 (qc_eq (some (.int r)) w (I', L', D', R'))) 0 0 w (39, [(0, .ref 267), (1, .int x1), (2, .int x2), (3, .int x3), (4, .int x4)], [], I, L, D, R)) (h : fX2_joined_b39 w rc k39 I L D R x1 x2 x3 x4 = some (r, I', L', D', R')) : qc_fm qcSX (I, L, D, R) (I', L', D', R') ∧ qc_X (qc_rm (dr + 1) 0 0) qmX2_joined (qc_QM 0 0 (qc_eq (some (.int r)) w (I', L', D', R'))) 0 0 w (39, [(0, .ref 267), (1, .int x1), (2, .int x2), (3, .int x3), (4, .int x4)], [], I, L, D, R) := by
  unfold fX2_joined_b39 at h
  refine And.imp_right (fun hx => qc_iload (qc_at qkX2_joined 21 rfl) rfl <| qc_sipush (qc_at qkX2_joined 22 rfl) <| hx) ?_
  refine qc_andC (qc_icmp_ge (qc_at qkX2_joined 23 rfl)) (fun u14 => ?_) (fun u14 => ?_)
  · replace h := qc_jp u14 h
    obtain ⟨rfl, rfl, rfl, rfl, rfl⟩ := qc_some5 h
    exact ⟨qc_fm.rf _, qc_iload_n (qc_at qkX2_joined 95 rfl) rfl <| qc_iret (qc_at qkX2_joined 96 rfl) rfl (Nat.le_refl _) (Nat.le_refl _) (qc_eq.rf _ _ _)⟩
  · replace h := qc_jn u14 h
    refine And.imp_right (fun hx => qc_aload_n (qc_at qkX2_joined 24 rfl) rfl <| qc_iload_n (qc_at qkX2_joined 25 rfl) rfl <| qc_iload_n (qc_at qkX2_joined 26 rfl) rfl <| hx) ?_
    obtain ⟨r15, I15, L15, D15, R15, e15, h⟩ := qc_bd_of h
    have c15 := (tX2_isJoint hn hR e15)
    refine qd_cVv (ci := 2) (a0 := 267) (qc_at qkX2_joined 27 rfl) ql_2_259 qfX2_isJoint (qc_kf hn rfl) rfl c15 rfl rfl (Nat.le_of_ble_eq_true rfl) (qc_rml (Nat.le_trans (by decide) hb) (by decide)) ⟨Nat.zero_le _, Nat.zero_le _⟩ ?_
    refine qc_andB (qc_ifB_eq (qc_at qkX2_joined 28 rfl)) (fun u16 => ?_) (fun u16 => ?_)
    · replace h := qc_jf u16 h
      obtain ⟨rfl, rfl, rfl, rfl, rfl⟩ := qc_some5 h
      exact ⟨qc_fm.rf _, qc_iload_n (qc_at qkX2_joined 95 rfl) rfl <| qc_iret (qc_at qkX2_joined 96 rfl) rfl (Nat.le_refl _) (Nat.le_refl _) (qc_eq.rf _ _ _)⟩
    · replace h := qc_jt u16 h
      refine And.imp_right (fun hx => qc_aload_n (qc_at qkX2_joined 29 rfl) rfl <| qc_gR (qc_at qkX2_joined 30 rfl) hn rfl (qfr_267_0 (c15.1.1 hR)) rfl <| hx) ?_
      obtain ⟨g17, h⟩ := qc_gd_of h
      replace g17 := qc_l62_of g17
      refine And.imp_right (fun hx => qc_gR (qc_at qkX2_joined 31 rfl) hn rfl rfl (qc_ne62 g17) <| qc_astore (lv' := [(5, _), (0, _), (1, _), (2, _), (3, _), (4, _)]) (qc_at qkX2_joined 32 rfl) rfl rfl <| qc_aload_n (qc_at qkX2_joined 33 rfl) rfl <| qc_gR (qc_at qkX2_joined 34 rfl) hn rfl (qfr_267_0 (c15.1.1 hR)) rfl <| qc_gI (qc_at qkX2_joined 35 rfl) hn rfl <| qc_istore (lv' := [(6, _), (5, _), (0, _), (1, _), (2, _), (3, _), (4, _)]) (qc_at qkX2_joined 36 rfl) rfl rfl <| qc_aload (qc_at qkX2_joined 37 rfl) rfl <| qc_gM (qc_at qkX2_joined 38 rfl) g17 <| qc_iconst (qc_at qkX2_joined 39 rfl) <| hx) ?_
      refine qc_andN (qc_icmp_ne (qc_at qkX2_joined 40 rfl)) (fun u18 => ?_) (fun u18 => ?_)
      · replace h := qc_jn u18 h
        exact And.imp_right (fun hx => qc_aload (qc_at qkX2_joined 43 rfl) rfl <| qc_gM (qc_at qkX2_joined 44 rfl) g17 <| qc_sub [2, 3, 5, 6, 1, 0] rfl hx) (tX2_joined_b92 hn hb hrc (c15.1.1 hR) hk39 h)
      · replace h := qc_jp u18 h
        exact And.imp_right (fun hx => qc_iconst (qc_at qkX2_joined 41 rfl) <| qc_goto (qc_at qkX2_joined 42 rfl) <| qc_sub [2, 3, 5, 6, 1, 0] rfl hx) (tX2_joined_b92 hn hb hrc (c15.1.1 hR) hk39 h)
def fX2_joined_l39 (w : qcW) (rc : qcRc) : Nat → qTI × qTL × qTD × qTR × Int32 × Int32 × Int32 × Int32 → qcO Int32 := qc_lp (fun k q => match q with | (I, L, D, R, x1, x2, x3, x4) => fX2_joined_b39 w rc k I L D R x1 x2 x3 x4)
set_option maxRecDepth 100000 in
set_option maxHeartbeats 4000000 in
theorem tX2_joined_l39 {w : qcW} {rc : qcRc} {dr : Nat} (hn : qcNF ≤ w.1) (hb : qcRB ≤ dr) (hrc : qcHrc w rc dr) : ∀ (n : Nat) {r : Int32} {I' : qTI} {L' : qTL} {D' : qTD} {R' : qTR} {I : qTI} {L : qTL} {D : qTD} {R : qTR} {x1 : Int32} {x2 : Int32} {x3 : Int32} {x4 : Int32} (hR : qc_FR R) (h : fX2_joined_l39 w rc n (I, L, D, R, x1, x2, x3, x4) = some (r, I', L', D', R')), qc_fm qcSX (I, L, D, R) (I', L', D', R') ∧ qc_X (qc_rm (dr + 1) 0 0) qmX2_joined (qc_QM 0 0 (qc_eq (some (.int r)) w (I', L', D', R'))) 0 0 w (39, [(0, .ref 267), (1, .int x1), (2, .int x2), (3, .int x3), (4, .int x4)], [], I, L, D, R) := by
  intro n
  induction n with
  | zero => intro _ _ _ _ _ _ _ _ _ _ _ _ _ _ h; cases h
  | succ n ih => intro _ _ _ _ _ _ _ _ _ _ _ _ _ hR h; exact tX2_joined_b39 hn hb hrc hR (k39 := fX2_joined_l39 w rc n) (fun hR h => ih hR h) h
def fX2_joined_b36 (w : qcW) (rc : qcRc) (I : qTI) (L : qTL) (D : qTD) (R : qTR) (x1 : Int32) (x2 : Int32) (x3 : Int32) : qcO Int32 :=
  (fX2_joined_l39 w rc qcF (I, L, D, R, x1, x2, x3, (0 : Int32)))
set_option maxRecDepth 100000 in
set_option maxHeartbeats 4000000 in
theorem tX2_joined_b36 {w : qcW} {rc : qcRc} {dr : Nat} {I : qTI} {L : qTL} {D : qTD} {R : qTR} {x1 : Int32} {x2 : Int32} {x3 : Int32} {r : Int32} {I' : qTI} {L' : qTL} {D' : qTD} {R' : qTR} (hn : qcNF ≤ w.1) (hb : qcRB ≤ dr) (hrc : qcHrc w rc dr) (hR : qc_FR R) (h : fX2_joined_b36 w rc I L D R x1 x2 x3 = some (r, I', L', D', R')) : qc_fm qcSX (I, L, D, R) (I', L', D', R') ∧ qc_X (qc_rm (dr + 1) 0 0) qmX2_joined (qc_QM 0 0 (qc_eq (some (.int r)) w (I', L', D', R'))) 0 0 w (36, [(0, .ref 267), (1, .int x1), (2, .int x2), (3, .int x3)], [], I, L, D, R) := by
  unfold fX2_joined_b36 at h
  exact And.imp_right (fun hx => qc_iconst (qc_at qkX2_joined 19 rfl) <| qc_istore (lv' := [(4, _), (0, _), (1, _), (2, _), (3, _)]) (qc_at qkX2_joined 20 rfl) rfl rfl <| qc_sub [1, 2, 3, 4, 0] rfl hx) (tX2_joined_l39 hn hb hrc qcF hR h)
def fX2_joined_b31 (w : qcW) (rc : qcRc) (I : qTI) (L : qTL) (D : qTD) (R : qTR) (x1 : Int32) (x2 : Int32) : qcO Int32 :=
  (qc_bd (rc 4 0 I L D R) fun r19 I19 L19 D19 R19 => fX2_joined_b36 w rc I19 L19 D19 R19 x1 x2 r19)
set_option maxRecDepth 100000 in
set_option maxHeartbeats 4000000 in
theorem tX2_joined_b31 {w : qcW} {rc : qcRc} {dr : Nat} {I : qTI} {L : qTL} {D : qTD} {R : qTR} {x1 : Int32} {x2 : Int32} {r : Int32} {I' : qTI} {L' : qTL} {D' : qTD} {R' : qTR} (hn : qcNF ≤ w.1) (hb : qcRB ≤ dr) (hrc : qcHrc w rc dr) (hR : qc_FR R) (h : fX2_joined_b31 w rc I L D R x1 x2 = some (r, I', L', D', R')) : qc_fm qcSX (I, L, D, R) (I', L', D', R') ∧ qc_X (qc_rm (dr + 1) 0 0) qmX2_joined (qc_QM 0 0 (qc_eq (some (.int r)) w (I', L', D', R'))) 0 0 w (31, [(0, .ref 267), (1, .int x1), (2, .int x2)], [], I, L, D, R) := by
  unfold fX2_joined_b31 at h
  refine And.imp_right (fun hx => qc_aload_n (qc_at qkX2_joined 16 rfl) rfl <| hx) ?_
  obtain ⟨r19, I19, L19, D19, R19, e19, h⟩ := qc_bd_of h
  have c19 := (qd_rc4 hrc hR e19)
  refine qd_cVv (ci := 2) (a0 := 267) (qc_at qkX2_joined 17 rfl) ql_2_256 qfX2_signed (qc_kf hn rfl) rfl c19 rfl rfl (Nat.le_of_ble_eq_true rfl) (qc_rml (Nat.le_refl _) (by decide)) ⟨Nat.zero_le _, Nat.zero_le _⟩ ?_
  exact And.imp_right (fun hx => qc_istore_n (lv' := [(3, _), (0, _), (1, _), (2, _)]) (qc_at qkX2_joined 18 rfl) rfl rfl <| qc_sub [1, 2, 3, 0] rfl hx) (tX2_joined_b36 hn hb hrc (c19.1.1 hR) h)
def fX2_joined (w : qcW) (rc : qcRc) (I : qTI) (L : qTL) (D : qTD) (R : qTR) (x1 : Int32) : qcO Int32 :=
  (if (2 : Int32) < x1 then (fX2_joined_b31 w rc I L D R x1 (7 : Int32)) else (qc_gd (qc_l62 (R 268 1)) <| if (R 268 1) = 19 then (qc_bd (rc 3 0 I L D R) fun r23 I23 L23 D23 R23 => fX2_joined_b36 w rc I23 L23 D23 R23 x1 (1 : Int32) r23) else (fX2_joined_b31 w rc I L D R x1 (7 : Int32))))
set_option maxRecDepth 100000 in
set_option maxHeartbeats 4000000 in
theorem tX2_joined {w : qcW} {rc : qcRc} {dr : Nat} {I : qTI} {L : qTL} {D : qTD} {R : qTR} {x1 : Int32} {r : Int32} {I' : qTI} {L' : qTL} {D' : qTD} {R' : qTR} (hn : qcNF ≤ w.1) (hb : qcRB ≤ dr) (hrc : qcHrc w rc dr) (hR : qc_FR R) (h : fX2_joined w rc I L D R x1 = some (r, I', L', D', R')) : qc_fm qcSX (I, L, D, R) (I', L', D', R') ∧ qc_V (dr + 1) 0 0 qmX2_joined [.ref 267, .int x1] w (I, L, D, R) (qc_eq (some (.int r)) w (I', L', D', R')) := by
  unfold fX2_joined at h
  refine And.imp_right (fun hx => qc_V.of rfl rfl (Nat.le_of_ble_eq_true rfl) (lv := [(0, .ref 267), (1, .int x1)]) rfl hx) ?_
  refine And.imp_right (fun hx => qc_bipush (qc_at qkX2_joined 0 rfl) <| qc_istore_n (lv' := [(2, _), (0, _), (1, _)]) (qc_at qkX2_joined 1 rfl) rfl rfl <| qc_iload_n (qc_at qkX2_joined 2 rfl) rfl <| qc_iconst (qc_at qkX2_joined 3 rfl) <| hx) ?_
  refine qc_andC (qc_icmp_gt (qc_at qkX2_joined 4 rfl)) (fun u20 => ?_) (fun u20 => ?_)
  · replace h := qc_jp u20 h
    exact And.imp_right (fun hx => qc_sub [1, 2, 0] rfl hx) (tX2_joined_b31 hn hb hrc hR h)
  · replace h := qc_jn u20 h
    refine And.imp_right (fun hx => qc_aload_n (qc_at qkX2_joined 5 rfl) rfl <| qc_gR (qc_at qkX2_joined 6 rfl) hn rfl (qfr_267_0 hR) rfl <| hx) ?_
    obtain ⟨g21, h⟩ := qc_gd_of h
    replace g21 := qc_l62_of g21
    refine And.imp_right (fun hx => qc_gR (qc_at qkX2_joined 7 rfl) hn rfl rfl (qc_ne62 g21) <| qc_gS (qc_at qkX2_joined 8 rfl) rfl <| hx) ?_
    refine qc_andN (qc_acmp_ne (qc_at qkX2_joined 9 rfl) (Or.inl g21) (Or.inl (by decide))) (fun u22 => ?_) (fun u22 => ?_)
    · replace h := qc_jn u22 h
      exact And.imp_right (fun hx => qc_sub [1, 2, 0] rfl hx) (tX2_joined_b31 hn hb hrc hR h)
    · replace h := qc_jp u22 h
      refine And.imp_right (fun hx => qc_aload_n (qc_at qkX2_joined 10 rfl) rfl <| hx) ?_
      obtain ⟨r23, I23, L23, D23, R23, e23, h⟩ := qc_bd_of h
      have c23 := (qd_rc3 hrc hR e23)
      refine qd_cVv (ci := 2) (a0 := 267) (qc_at qkX2_joined 11 rfl) ql_2_253 qfX2_denied (qc_kf hn rfl) rfl c23 rfl rfl (Nat.le_of_ble_eq_true rfl) (qc_rml (Nat.le_refl _) (by decide)) ⟨Nat.zero_le _, Nat.zero_le _⟩ ?_
      exact And.imp_right (fun hx => qc_istore_n (lv' := [(3, _), (2, _), (0, _), (1, _)]) (qc_at qkX2_joined 12 rfl) rfl rfl <| qc_iconst (qc_at qkX2_joined 13 rfl) <| qc_istore_n (lv' := [(2, _), (3, _), (0, _), (1, _)]) (qc_at qkX2_joined 14 rfl) rfl rfl <| qc_goto (qc_at qkX2_joined 15 rfl) <| qc_sub [2, 3, 0, 1] rfl hx) (tX2_joined_b36 hn hb hrc (c23.1.1 hR) h)
def fX2_denied_b45 (w : qcW) (rc : qcRc) (I : qTI) (L : qTL) (D : qTD) (R : qTR) (x1 : Int32) (s0 : Int32) : qcO Int32 :=
  (qc_bd (fX2_fit w I L D R s0 x1) fun r1 I1 L1 D1 R1 => qc_gd (qc_io w (R1 267 4) 0) <| qc_bd (fX0_add w I1 L1 D1 R1 (R1 267 4) (1810 : Int32) (0 : Int32)) fun r3 I3 L3 D3 R3 => some ((0 : Int32), I3, L3, D3, R3))
set_option maxRecDepth 100000 in
set_option maxHeartbeats 4000000 in
theorem tX2_denied_b45 {w : qcW} {rc : qcRc} {dr : Nat} {I : qTI} {L : qTL} {D : qTD} {R : qTR} {x1 : Int32} {s0 : Int32} {r : Int32} {I' : qTI} {L' : qTL} {D' : qTD} {R' : qTR} (hn : qcNF ≤ w.1) (hb : qcRB ≤ dr) (hrc : qcHrc w rc dr) (hR : qc_FR R) (h : fX2_denied_b45 w rc I L D R x1 s0 = some (r, I', L', D', R')) : qc_fm qcSX (I, L, D, R) (I', L', D', R') ∧ qc_X (qc_rm (dr + 1) 0 0) qmX2_denied (qc_QM 0 0 (qc_eq (some (.int r)) w (I', L', D', R'))) 0 0 w (45, [(0, .ref 267), (1, .int x1)], [.int s0, .ref 267], I, L, D, R) := by
  unfold fX2_denied_b45 at h
  refine And.imp_right (fun hx => qc_iload_n (qc_at qkX2_denied 25 rfl) rfl <| hx) ?_
  obtain ⟨r1, I1, L1, D1, R1, e1, h⟩ := qc_bd_of h
  have c1 := (tX2_fit hn hR e1)
  refine qd_cVn (ci := 2) (a0 := 267) (qc_at qkX2_denied 26 rfl) ql_2_116 qfX2_fit (qc_kf hn rfl) rfl c1 rfl rfl (Nat.le_of_ble_eq_true rfl) (qc_rml (Nat.le_trans (by decide) hb) (by decide)) ⟨Nat.zero_le _, Nat.zero_le _⟩ ?_
  refine And.imp_right (fun hx => qc_aload_n (qc_at qkX2_denied 27 rfl) rfl <| hx) ?_
  obtain ⟨g2, h⟩ := qc_gd_of h
  replace g2 := qc_io_of g2
  refine And.imp_right (fun hx => qc_gR (qc_at qkX2_denied 28 rfl) hn rfl rfl (qc_ki255 g2) <| qc_sipush (qc_at qkX2_denied 29 rfl) <| qc_iconst (qc_at qkX2_denied 30 rfl) <| hx) ?_
  obtain ⟨r3, I3, L3, D3, R3, e3, h⟩ := qc_bd_of h
  have c3 := (tX0_add hn (c1.1.1 hR) e3)
  refine qd_cVn (ci := 0) (qc_at qkX2_denied 31 rfl) ql_2_207 qfX0_add g2 rfl c3 rfl rfl (Nat.le_of_ble_eq_true rfl) (qc_rml (Nat.le_trans (by decide) hb) (by decide)) ⟨Nat.zero_le _, Nat.zero_le _⟩ ?_
  obtain ⟨rfl, rfl, rfl, rfl, rfl⟩ := qc_some5 h
  exact ⟨qc_fm.rf _, qc_iconst (qc_at qkX2_denied 32 rfl) <| qc_iret (qc_at qkX2_denied 33 rfl) rfl (Nat.le_refl _) (Nat.le_refl _) (qc_eq.rf _ _ _)⟩
def fX2_denied (w : qcW) (rc : qcRc) (I : qTI) (L : qTL) (D : qTD) (R : qTR) : qcO Int32 :=
  (qc_bd (fX2_openOne w I L D R) fun r4 I4 L4 D4 R4 => qc_bd (fX9_take w I4 L4 D4 R4) fun r5 I5 L5 D5 R5 => qc_bd (rc 2 (2 : Int32) I5 L5 D5 R5) fun r6 I6 L6 D6 R6 => if r6 = 0 then (fX2_denied_b45 w rc (qc_u I6 267 6 ((I6 267 6) - (1 : Int32))) L6 D6 R6 (I 268 2) (1 : Int32)) else (fX2_denied_b45 w rc (qc_u I6 267 6 ((I6 267 6) - (1 : Int32))) L6 D6 R6 (I 268 2) (0 : Int32)))
set_option maxRecDepth 100000 in
set_option maxHeartbeats 4000000 in
theorem tX2_denied {w : qcW} {rc : qcRc} {dr : Nat} {I : qTI} {L : qTL} {D : qTD} {R : qTR} {r : Int32} {I' : qTI} {L' : qTL} {D' : qTD} {R' : qTR} (hn : qcNF ≤ w.1) (hb : qcRB ≤ dr) (hrc : qcHrc w rc dr) (hR : qc_FR R) (h : fX2_denied w rc I L D R = some (r, I', L', D', R')) : qc_fm qcSX (I, L, D, R) (I', L', D', R') ∧ qc_V (dr + 1) 0 0 qmX2_denied [.ref 267] w (I, L, D, R) (qc_eq (some (.int r)) w (I', L', D', R')) := by
  unfold fX2_denied at h
  refine And.imp_right (fun hx => qc_V.of rfl rfl (Nat.le_of_ble_eq_true rfl) (lv := [(0, .ref 267)]) rfl hx) ?_
  refine And.imp_right (fun hx => qc_aload_n (qc_at qkX2_denied 0 rfl) rfl <| qc_gR (qc_at qkX2_denied 1 rfl) hn rfl (qfr_267_0 hR) rfl <| qc_gI (qc_at qkX2_denied 2 rfl) hn rfl <| qc_istore_n (lv' := [(1, _), (0, _)]) (qc_at qkX2_denied 3 rfl) rfl rfl <| qc_aload_n (qc_at qkX2_denied 4 rfl) rfl <| hx) ?_
  obtain ⟨r4, I4, L4, D4, R4, e4, h⟩ := qc_bd_of h
  have c4 := (tX2_openOne hn hR e4)
  refine qd_cVn (ci := 2) (a0 := 267) (qc_at qkX2_denied 5 rfl) ql_2_221 qfX2_openOne (qc_kf hn rfl) rfl c4 rfl rfl (Nat.le_of_ble_eq_true rfl) (qc_rml (Nat.le_trans (by decide) hb) (by decide)) ⟨Nat.zero_le _, Nat.zero_le _⟩ ?_
  refine And.imp_right (fun hx => qc_aload_n (qc_at qkX2_denied 6 rfl) rfl <| qc_gR (qc_at qkX2_denied 7 rfl) hn rfl (qfr_267_0 (c4.1.1 hR)) rfl <| hx) ?_
  obtain ⟨r5, I5, L5, D5, R5, e5, h⟩ := qc_bd_of h
  have c5 := (tX9_take hn (c4.1.1 hR) e5)
  refine qd_cVn (ci := 7) (a0 := 268) (qc_at qkX2_denied 8 rfl) ql_2_195 qfX9_take (qc_kf hn rfl) rfl c5 rfl rfl (Nat.le_of_ble_eq_true rfl) (qc_rml (Nat.le_trans (by decide) hb) (by decide)) ⟨Nat.zero_le _, Nat.zero_le _⟩ ?_
  refine And.imp_right (fun hx => qc_aload_n (qc_at qkX2_denied 9 rfl) rfl <| qc_iconst (qc_at qkX2_denied 10 rfl) <| hx) ?_
  obtain ⟨r6, I6, L6, D6, R6, e6, h⟩ := qc_bd_of h
  have c6 := (qd_rc2 hrc (c5.1.1 (c4.1.1 hR)) e6)
  refine qd_cVv (ci := 2) (a0 := 267) (qc_at qkX2_denied 11 rfl) ql_2_173 qfX2_joined (qc_kf hn rfl) rfl c6 rfl rfl (Nat.le_of_ble_eq_true rfl) (qc_rml (Nat.le_refl _) (by decide)) ⟨Nat.zero_le _, Nat.zero_le _⟩ ?_
  refine And.imp_right (fun hx => qc_istore_n (lv' := [(2, _), (1, _), (0, _)]) (qc_at qkX2_denied 12 rfl) rfl rfl <| qc_aload_n (qc_at qkX2_denied 13 rfl) rfl <| qc_dup (qc_at qkX2_denied 14 rfl) rfl <| qc_gI (qc_at qkX2_denied 15 rfl) hn rfl <| qc_iconst (qc_at qkX2_denied 16 rfl) <| qc_isub (qc_at qkX2_denied 17 rfl) <| hx) (qd_pI (qc_at qkX2_denied 18 rfl) hn rfl rfl ?_)
  refine And.imp_right (fun hx => qc_aload_n (qc_at qkX2_denied 19 rfl) rfl <| qc_iload_n (qc_at qkX2_denied 20 rfl) rfl <| hx) ?_
  refine qc_andN (qc_if_ne (qc_at qkX2_denied 21 rfl)) (fun u7 => ?_) (fun u7 => ?_)
  · replace h := qc_jn u7 h
    exact And.imp_right (fun hx => qc_iconst (qc_at qkX2_denied 24 rfl) <| qc_sub [2, 1] rfl hx) (tX2_denied_b45 hn hb hrc (c6.1.1 (c5.1.1 (c4.1.1 hR))) h)
  · replace h := qc_jp u7 h
    exact And.imp_right (fun hx => qc_iconst (qc_at qkX2_denied 22 rfl) <| qc_goto (qc_at qkX2_denied 23 rfl) <| qc_sub [2, 1] rfl hx) (tX2_denied_b45 hn hb hrc (c6.1.1 (c5.1.1 (c4.1.1 hR))) h)
def fX2_signed_b109 (w : qcW) (rc : qcRc) (I : qTI) (L : qTL) (D : qTD) (R : qTR) (x3 : Int32) (s0 : Int32) (s1 : Nat) : qcO Int32 :=
  (qc_gd (qc_io w s1 0) <| (qc_bd (fX0_add w I L D R s1 (s0 + x3) (0 : Int32)) fun r2 I2 L2 D2 R2 => some (x3, I2, L2, D2, R2)))
set_option maxRecDepth 100000 in
set_option maxHeartbeats 4000000 in
theorem tX2_signed_b109 {w : qcW} {rc : qcRc} {dr : Nat} {I : qTI} {L : qTL} {D : qTD} {R : qTR} {x3 : Int32} {s0 : Int32} {s1 : Nat} {r : Int32} {I' : qTI} {L' : qTL} {D' : qTD} {R' : qTR} (hn : qcNF ≤ w.1) (hb : qcRB ≤ dr) (hrc : qcHrc w rc dr) (hR : qc_FR R) (h : fX2_signed_b109 w rc I L D R x3 s0 s1 = some (r, I', L', D', R')) : qc_fm qcSX (I, L, D, R) (I', L', D', R') ∧ qc_X (qc_rm (dr + 1) 0 0) qmX2_signed (qc_QM 0 0 (qc_eq (some (.int r)) w (I', L', D', R'))) 0 0 w (109, [(3, .int x3)], [.int s0, .ref s1], I, L, D, R) := by
  unfold fX2_signed_b109 at h
  obtain ⟨g1, h⟩ := qc_gd_of h
  replace g1 := qc_io_of g1
  refine And.imp_right (fun hx => qc_iload_n (qc_at qkX2_signed 53 rfl) rfl <| qc_iadd (qc_at qkX2_signed 54 rfl) <| qc_iconst (qc_at qkX2_signed 55 rfl) <| hx) ?_
  obtain ⟨r2, I2, L2, D2, R2, e2, h⟩ := qc_bd_of h
  have c2 := (tX0_add hn hR e2)
  refine qd_cVn (ci := 0) (qc_at qkX2_signed 56 rfl) ql_2_207 qfX0_add g1 rfl c2 rfl rfl (Nat.le_of_ble_eq_true rfl) (qc_rml (Nat.le_trans (by decide) hb) (by decide)) ⟨Nat.zero_le _, Nat.zero_le _⟩ ?_
  obtain ⟨rfl, rfl, rfl, rfl, rfl⟩ := qc_some5 h
  exact ⟨qc_fm.rf _, qc_iload_n (qc_at qkX2_signed 57 rfl) rfl <| qc_iret (qc_at qkX2_signed 58 rfl) rfl (Nat.le_refl _) (Nat.le_refl _) (qc_eq.rf _ _ _)⟩
def fX2_signed_b85 (w : qcW) (rc : qcRc) (I : qTI) (L : qTL) (D : qTD) (R : qTR) (x1 : Nat) (x2 : Int32) (x3 : Int32) (s0 : Int32) : qcO Int32 :=
  (qc_gd (qc_l62 x1) <| (qc_bd (fX2_fit w I L D R s0 x2) fun r4 I4 L4 D4 R4 => qc_gd (qc_io w (R4 267 4) 0) <| if x1 = 49 then (fX2_signed_b109 w rc I4 L4 D4 R4 x3 (1200 : Int32) (R4 267 4)) else (fX2_signed_b109 w rc I4 L4 D4 R4 x3 (1300 : Int32) (R4 267 4))))
set_option maxRecDepth 100000 in
set_option maxHeartbeats 4000000 in
theorem tX2_signed_b85 {w : qcW} {rc : qcRc} {dr : Nat} {I : qTI} {L : qTL} {D : qTD} {R : qTR} {x1 : Nat} {x2 : Int32} {x3 : Int32} {s0 : Int32} {r : Int32} {I' : qTI} {L' : qTL} {D' : qTD} {R' : qTR} (hn : qcNF ≤ w.1) (hb : qcRB ≤ dr) (hrc : qcHrc w rc dr) (hR : qc_FR R) (h : fX2_signed_b85 w rc I L D R x1 x2 x3 s0 = some (r, I', L', D', R')) : qc_fm qcSX (I, L, D, R) (I', L', D', R') ∧ qc_X (qc_rm (dr + 1) 0 0) qmX2_signed (qc_QM 0 0 (qc_eq (some (.int r)) w (I', L', D', R'))) 0 0 w (85, [(0, .ref 267), (1, .ref x1), (2, .int x2), (3, .int x3)], [.int s0, .ref 267], I, L, D, R) := by
  unfold fX2_signed_b85 at h
  obtain ⟨g3, h⟩ := qc_gd_of h
  replace g3 := qc_l62_of g3
  refine And.imp_right (fun hx => qc_iload_n (qc_at qkX2_signed 43 rfl) rfl <| hx) ?_
  obtain ⟨r4, I4, L4, D4, R4, e4, h⟩ := qc_bd_of h
  have c4 := (tX2_fit hn hR e4)
  refine qd_cVn (ci := 2) (a0 := 267) (qc_at qkX2_signed 44 rfl) ql_2_116 qfX2_fit (qc_kf hn rfl) rfl c4 rfl rfl (Nat.le_of_ble_eq_true rfl) (qc_rml (Nat.le_trans (by decide) hb) (by decide)) ⟨Nat.zero_le _, Nat.zero_le _⟩ ?_
  refine And.imp_right (fun hx => qc_aload_n (qc_at qkX2_signed 45 rfl) rfl <| hx) ?_
  obtain ⟨g5, h⟩ := qc_gd_of h
  replace g5 := qc_io_of g5
  refine And.imp_right (fun hx => qc_gR (qc_at qkX2_signed 46 rfl) hn rfl rfl (qc_ki255 g5) <| qc_aload_n (qc_at qkX2_signed 47 rfl) rfl <| qc_gS (qc_at qkX2_signed 48 rfl) rfl <| hx) ?_
  refine qc_andN (qc_acmp_ne (qc_at qkX2_signed 49 rfl) (Or.inl g3) (Or.inl (by decide))) (fun u6 => ?_) (fun u6 => ?_)
  · replace h := qc_jn u6 h
    exact And.imp_right (fun hx => qc_sipush (qc_at qkX2_signed 52 rfl) <| qc_sub [3] rfl hx) (tX2_signed_b109 hn hb hrc (c4.1.1 hR) h)
  · replace h := qc_jp u6 h
    exact And.imp_right (fun hx => qc_sipush (qc_at qkX2_signed 50 rfl) <| qc_goto (qc_at qkX2_signed 51 rfl) <| qc_sub [3] rfl hx) (tX2_signed_b109 hn hb hrc (c4.1.1 hR) h)
def fX2_signed_b27 (w : qcW) (rc : qcRc) (I : qTI) (L : qTL) (D : qTD) (R : qTR) (x1 : Nat) : qcO Int32 :=
  (qc_gd (qc_l62 x1) <| (qc_bd (fX2_openOne w I L D R) fun r8 I8 L8 D8 R8 => qc_bd (fX9_take w I8 L8 D8 R8) fun r9 I9 L9 D9 R9 => qc_bd (rc 4 0 I9 L9 D9 R9) fun r10 I10 L10 D10 R10 => if x1 = 49 then (if r10 = 0 then (fX2_signed_b85 w rc (qc_u I10 267 6 ((I10 267 6) - (1 : Int32))) L10 D10 R10 x1 (I 268 2) r10 (0 : Int32)) else (fX2_signed_b85 w rc (qc_u I10 267 6 ((I10 267 6) - (1 : Int32))) L10 D10 R10 x1 (I 268 2) r10 (1 : Int32))) else (qc_bd (fX2_isWhole w (qc_u I10 267 6 ((I10 267 6) - (1 : Int32))) L10 D10 R10 r10) fun r12 I12 L12 D12 R12 => fX2_signed_b85 w rc I12 L12 D12 R12 x1 (I 268 2) r10 (qc_b r12))))
set_option maxRecDepth 100000 in
set_option maxHeartbeats 4000000 in
theorem tX2_signed_b27 {w : qcW} {rc : qcRc} {dr : Nat} {I : qTI} {L : qTL} {D : qTD} {R : qTR} {x1 : Nat} {r : Int32} {I' : qTI} {L' : qTL} {D' : qTD} {R' : qTR} (hn : qcNF ≤ w.1) (hb : qcRB ≤ dr) (hrc : qcHrc w rc dr) (hR : qc_FR R) (h : fX2_signed_b27 w rc I L D R x1 = some (r, I', L', D', R')) : qc_fm qcSX (I, L, D, R) (I', L', D', R') ∧ qc_X (qc_rm (dr + 1) 0 0) qmX2_signed (qc_QM 0 0 (qc_eq (some (.int r)) w (I', L', D', R'))) 0 0 w (27, [(0, .ref 267), (1, .ref x1)], [], I, L, D, R) := by
  unfold fX2_signed_b27 at h
  obtain ⟨g7, h⟩ := qc_gd_of h
  replace g7 := qc_l62_of g7
  refine And.imp_right (fun hx => qc_aload_n (qc_at qkX2_signed 13 rfl) rfl <| qc_gR (qc_at qkX2_signed 14 rfl) hn rfl (qfr_267_0 hR) rfl <| qc_gI (qc_at qkX2_signed 15 rfl) hn rfl <| qc_istore_n (lv' := [(2, _), (0, _), (1, _)]) (qc_at qkX2_signed 16 rfl) rfl rfl <| qc_aload_n (qc_at qkX2_signed 17 rfl) rfl <| hx) ?_
  obtain ⟨r8, I8, L8, D8, R8, e8, h⟩ := qc_bd_of h
  have c8 := (tX2_openOne hn hR e8)
  refine qd_cVn (ci := 2) (a0 := 267) (qc_at qkX2_signed 18 rfl) ql_2_221 qfX2_openOne (qc_kf hn rfl) rfl c8 rfl rfl (Nat.le_of_ble_eq_true rfl) (qc_rml (Nat.le_trans (by decide) hb) (by decide)) ⟨Nat.zero_le _, Nat.zero_le _⟩ ?_
  refine And.imp_right (fun hx => qc_aload_n (qc_at qkX2_signed 19 rfl) rfl <| qc_gR (qc_at qkX2_signed 20 rfl) hn rfl (qfr_267_0 (c8.1.1 hR)) rfl <| hx) ?_
  obtain ⟨r9, I9, L9, D9, R9, e9, h⟩ := qc_bd_of h
  have c9 := (tX9_take hn (c8.1.1 hR) e9)
  refine qd_cVn (ci := 7) (a0 := 268) (qc_at qkX2_signed 21 rfl) ql_2_195 qfX9_take (qc_kf hn rfl) rfl c9 rfl rfl (Nat.le_of_ble_eq_true rfl) (qc_rml (Nat.le_trans (by decide) hb) (by decide)) ⟨Nat.zero_le _, Nat.zero_le _⟩ ?_
  refine And.imp_right (fun hx => qc_aload_n (qc_at qkX2_signed 22 rfl) rfl <| hx) ?_
  obtain ⟨r10, I10, L10, D10, R10, e10, h⟩ := qc_bd_of h
  have c10 := (qd_rc4 hrc (c9.1.1 (c8.1.1 hR)) e10)
  refine qd_cVv (ci := 2) (a0 := 267) (qc_at qkX2_signed 23 rfl) ql_2_256 qfX2_signed (qc_kf hn rfl) rfl c10 rfl rfl (Nat.le_of_ble_eq_true rfl) (qc_rml (Nat.le_refl _) (by decide)) ⟨Nat.zero_le _, Nat.zero_le _⟩ ?_
  refine And.imp_right (fun hx => qc_istore_n (lv' := [(3, _), (2, _), (0, _), (1, _)]) (qc_at qkX2_signed 24 rfl) rfl rfl <| qc_aload_n (qc_at qkX2_signed 25 rfl) rfl <| qc_dup (qc_at qkX2_signed 26 rfl) rfl <| qc_gI (qc_at qkX2_signed 27 rfl) hn rfl <| qc_iconst (qc_at qkX2_signed 28 rfl) <| qc_isub (qc_at qkX2_signed 29 rfl) <| hx) (qd_pI (qc_at qkX2_signed 30 rfl) hn rfl rfl ?_)
  refine And.imp_right (fun hx => qc_aload_n (qc_at qkX2_signed 31 rfl) rfl <| qc_aload_n (qc_at qkX2_signed 32 rfl) rfl <| qc_gS (qc_at qkX2_signed 33 rfl) rfl <| hx) ?_
  refine qc_andN (qc_acmp_ne (qc_at qkX2_signed 34 rfl) (Or.inl g7) (Or.inl (by decide))) (fun u11 => ?_) (fun u11 => ?_)
  · replace h := qc_jn u11 h
    refine And.imp_right (fun hx => qc_iload_n (qc_at qkX2_signed 41 rfl) rfl <| hx) ?_
    obtain ⟨r12, I12, L12, D12, R12, e12, h⟩ := qc_bd_of h
    have c12 := (tX2_isWhole hn (c10.1.1 (c9.1.1 (c8.1.1 hR))) e12)
    refine qd_cSv (qc_at qkX2_signed 42 rfl) ql_2_109 qfX2_isWhole c12 rfl rfl (Nat.le_of_ble_eq_true rfl) (qc_rml (Nat.le_trans (by decide) hb) (by decide)) ⟨Nat.zero_le _, Nat.zero_le _⟩ ?_
    exact And.imp_right (fun hx => qc_sub [2, 3, 1, 0] rfl hx) (tX2_signed_b85 hn hb hrc (c12.1.1 (c10.1.1 (c9.1.1 (c8.1.1 hR)))) h)
  · replace h := qc_jp u11 h
    refine And.imp_right (fun hx => qc_iload_n (qc_at qkX2_signed 35 rfl) rfl <| hx) ?_
    refine qc_andC (qc_if_eq (qc_at qkX2_signed 36 rfl)) (fun u13 => ?_) (fun u13 => ?_)
    · replace h := qc_jp u13 h
      exact And.imp_right (fun hx => qc_iconst (qc_at qkX2_signed 39 rfl) <| qc_goto (qc_at qkX2_signed 40 rfl) <| qc_sub [2, 3, 1, 0] rfl hx) (tX2_signed_b85 hn hb hrc (c10.1.1 (c9.1.1 (c8.1.1 hR))) h)
    · replace h := qc_jn u13 h
      exact And.imp_right (fun hx => qc_iconst (qc_at qkX2_signed 37 rfl) <| qc_goto (qc_at qkX2_signed 38 rfl) <| qc_sub [2, 3, 1, 0] rfl hx) (tX2_signed_b85 hn hb hrc (c10.1.1 (c9.1.1 (c8.1.1 hR))) h)
def fX2_signed (w : qcW) (rc : qcRc) (I : qTI) (L : qTL) (D : qTD) (R : qTR) : qcO Int32 :=
  (qc_gd (qc_l62 (R 268 1)) <| if (R 268 1) = 49 then (fX2_signed_b27 w rc I L D R (R 268 1)) else (if (R 268 1) = 53 then (fX2_signed_b27 w rc I L D R (R 268 1)) else (qc_bd (rc 5 0 I L D R) fun r17 I17 L17 D17 R17 => some (r17, I17, L17, D17, R17))))
set_option maxRecDepth 100000 in
set_option maxHeartbeats 4000000 in
theorem tX2_signed {w : qcW} {rc : qcRc} {dr : Nat} {I : qTI} {L : qTL} {D : qTD} {R : qTR} {r : Int32} {I' : qTI} {L' : qTL} {D' : qTD} {R' : qTR} (hn : qcNF ≤ w.1) (hb : qcRB ≤ dr) (hrc : qcHrc w rc dr) (hR : qc_FR R) (h : fX2_signed w rc I L D R = some (r, I', L', D', R')) : qc_fm qcSX (I, L, D, R) (I', L', D', R') ∧ qc_V (dr + 1) 0 0 qmX2_signed [.ref 267] w (I, L, D, R) (qc_eq (some (.int r)) w (I', L', D', R')) := by
  unfold fX2_signed at h
  refine And.imp_right (fun hx => qc_V.of rfl rfl (Nat.le_of_ble_eq_true rfl) (lv := [(0, .ref 267)]) rfl hx) ?_
  refine And.imp_right (fun hx => qc_aload_n (qc_at qkX2_signed 0 rfl) rfl <| qc_gR (qc_at qkX2_signed 1 rfl) hn rfl (qfr_267_0 hR) rfl <| hx) ?_
  obtain ⟨g14, h⟩ := qc_gd_of h
  replace g14 := qc_l62_of g14
  refine And.imp_right (fun hx => qc_gR (qc_at qkX2_signed 2 rfl) hn rfl rfl (qc_ne62 g14) <| qc_astore_n (lv' := [(1, _), (0, _)]) (qc_at qkX2_signed 3 rfl) rfl rfl <| qc_aload_n (qc_at qkX2_signed 4 rfl) rfl <| qc_gS (qc_at qkX2_signed 5 rfl) rfl <| hx) ?_
  refine qc_andC (qc_acmp_eq (qc_at qkX2_signed 6 rfl) (Or.inl g14) (Or.inl (by decide))) (fun u15 => ?_) (fun u15 => ?_)
  · replace h := qc_jp u15 h
    exact And.imp_right (fun hx => qc_sub [1, 0] rfl hx) (tX2_signed_b27 hn hb hrc hR h)
  · replace h := qc_jn u15 h
    refine And.imp_right (fun hx => qc_aload_n (qc_at qkX2_signed 7 rfl) rfl <| qc_gS (qc_at qkX2_signed 8 rfl) rfl <| hx) ?_
    refine qc_andC (qc_acmp_eq (qc_at qkX2_signed 9 rfl) (Or.inl g14) (Or.inl (by decide))) (fun u16 => ?_) (fun u16 => ?_)
    · replace h := qc_jp u16 h
      exact And.imp_right (fun hx => qc_sub [1, 0] rfl hx) (tX2_signed_b27 hn hb hrc hR h)
    · replace h := qc_jn u16 h
      refine And.imp_right (fun hx => qc_aload_n (qc_at qkX2_signed 10 rfl) rfl <| hx) ?_
      obtain ⟨r17, I17, L17, D17, R17, e17, h⟩ := qc_bd_of h
      have c17 := (qd_rc5 hrc hR e17)
      refine qd_cVv (ci := 2) (a0 := 267) (qc_at qkX2_signed 11 rfl) ql_2_296 qfX2_part (qc_kf hn rfl) rfl c17 rfl rfl (Nat.le_of_ble_eq_true rfl) (qc_rml (Nat.le_refl _) (by decide)) ⟨Nat.zero_le _, Nat.zero_le _⟩ ?_
      obtain ⟨rfl, rfl, rfl, rfl, rfl⟩ := qc_some5 h
      exact ⟨qc_fm.rf _, qc_iret (qc_at qkX2_signed 12 rfl) rfl (Nat.le_refl _) (Nat.le_refl _) (qc_eq.rf _ _ _)⟩
def fX2_part_b90 (w : qcW) (rc : qcRc) (I : qTI) (L : qTL) (D : qTD) (R : qTR) (s0 : Int32) (s1 : Int32) : qcO Int32 :=
  (qc_bd (fX2_laid w I L D R s1 s0 (0 : Int32)) fun r1 I1 L1 D1 R1 => some (r1, I1, L1, D1, R1))
set_option maxRecDepth 100000 in
set_option maxHeartbeats 4000000 in
theorem tX2_part_b90 {w : qcW} {rc : qcRc} {dr : Nat} {I : qTI} {L : qTL} {D : qTD} {R : qTR} {s0 : Int32} {s1 : Int32} {r : Int32} {I' : qTI} {L' : qTL} {D' : qTD} {R' : qTR} (hn : qcNF ≤ w.1) (hb : qcRB ≤ dr) (hrc : qcHrc w rc dr) (hR : qc_FR R) (h : fX2_part_b90 w rc I L D R s0 s1 = some (r, I', L', D', R')) : qc_fm qcSX (I, L, D, R) (I', L', D', R') ∧ qc_X (qc_rm (dr + 1) 0 0) qmX2_part (qc_QM 0 0 (qc_eq (some (.int r)) w (I', L', D', R'))) 0 0 w (90, [], [.int s0, .int s1, .ref 267], I, L, D, R) := by
  unfold fX2_part_b90 at h
  refine And.imp_right (fun hx => qc_iconst (qc_at qkX2_part 48 rfl) <| hx) ?_
  obtain ⟨r1, I1, L1, D1, R1, e1, h⟩ := qc_bd_of h
  have c1 := (tX2_laid hn hR e1)
  refine qd_cVv (ci := 2) (a0 := 267) (qc_at qkX2_part 49 rfl) ql_2_299 qfX2_laid (qc_kf hn rfl) rfl c1 rfl rfl (Nat.le_of_ble_eq_true rfl) (qc_rml (Nat.le_trans (by decide) hb) (by decide)) ⟨Nat.zero_le _, Nat.zero_le _⟩ ?_
  obtain ⟨rfl, rfl, rfl, rfl, rfl⟩ := qc_some5 h
  exact ⟨qc_fm.rf _, qc_iret (qc_at qkX2_part 50 rfl) rfl (Nat.le_refl _) (Nat.le_refl _) (qc_eq.rf _ _ _)⟩
def fX2_part_b76 (w : qcW) (rc : qcRc) (I : qTI) (L : qTL) (D : qTD) (R : qTR) (x1 : Nat) : qcO Int32 :=
  (qc_gd (qc_l62 x1) <| (if x1 = 17 then (fX2_part_b90 w rc I L D R (1 : Int32) (1 : Int32)) else (fX2_part_b90 w rc I L D R (0 : Int32) (1 : Int32))))
set_option maxRecDepth 100000 in
set_option maxHeartbeats 4000000 in
theorem tX2_part_b76 {w : qcW} {rc : qcRc} {dr : Nat} {I : qTI} {L : qTL} {D : qTD} {R : qTR} {x1 : Nat} {r : Int32} {I' : qTI} {L' : qTL} {D' : qTD} {R' : qTR} (hn : qcNF ≤ w.1) (hb : qcRB ≤ dr) (hrc : qcHrc w rc dr) (hR : qc_FR R) (h : fX2_part_b76 w rc I L D R x1 = some (r, I', L', D', R')) : qc_fm qcSX (I, L, D, R) (I', L', D', R') ∧ qc_X (qc_rm (dr + 1) 0 0) qmX2_part (qc_QM 0 0 (qc_eq (some (.int r)) w (I', L', D', R'))) 0 0 w (76, [(0, .ref 267), (1, .ref x1)], [], I, L, D, R) := by
  unfold fX2_part_b76 at h
  obtain ⟨g2, h⟩ := qc_gd_of h
  replace g2 := qc_l62_of g2
  refine And.imp_right (fun hx => qc_aload_n (qc_at qkX2_part 40 rfl) rfl <| qc_iconst (qc_at qkX2_part 41 rfl) <| qc_aload_n (qc_at qkX2_part 42 rfl) rfl <| qc_gS (qc_at qkX2_part 43 rfl) rfl <| hx) ?_
  refine qc_andN (qc_acmp_ne (qc_at qkX2_part 44 rfl) (Or.inl g2) (Or.inl (by decide))) (fun u3 => ?_) (fun u3 => ?_)
  · replace h := qc_jn u3 h
    exact And.imp_right (fun hx => qc_iconst (qc_at qkX2_part 47 rfl) <| qc_sub [] rfl hx) (tX2_part_b90 hn hb hrc hR h)
  · replace h := qc_jp u3 h
    exact And.imp_right (fun hx => qc_iconst (qc_at qkX2_part 45 rfl) <| qc_goto (qc_at qkX2_part 46 rfl) <| qc_sub [] rfl hx) (tX2_part_b90 hn hb hrc hR h)
def fX2_part (w : qcW) (rc : qcRc) (I : qTI) (L : qTL) (D : qTD) (R : qTR) : qcO Int32 :=
  (qc_gd (qc_l62 (R 268 1)) <| if (R 268 1) = 1 then (qc_bd (fX2_laid w I L D R (1 : Int32) (I 268 4) (1 : Int32)) fun r21 I21 L21 D21 R21 => some (r21, I21, L21, D21, R21)) else (if (R 268 1) = 2 then (qc_bd (fX2_keepReal w I L D R) fun r19 I19 L19 D19 R19 => qc_bd (fX2_laid w I19 L19 D19 R19 (2 : Int32) r19 (4 : Int32)) fun r20 I20 L20 D20 R20 => some (r20, I20, L20, D20, R20)) else (if (R 268 1) = 16 then (qc_bd (fX2_laid w I L D R (3 : Int32) (0 : Int32) (1 : Int32)) fun r18 I18 L18 D18 R18 => some (r18, I18, L18, D18, R18)) else (if (R 268 1) = 17 then (fX2_part_b76 w rc I L D R (R 268 1)) else (if (R 268 1) = 18 then (fX2_part_b76 w rc I L D R (R 268 1)) else (if (R 268 1) = 3 then (qc_bd (rc 6 0 I L D R) fun r17 I17 L17 D17 R17 => some (r17, I17, L17, D17, R17)) else (if (R 268 1) = 54 then (qc_bd (fX2_openOne w I L D R) fun r12 I12 L12 D12 R12 => qc_bd (fX9_take w I12 L12 D12 R12) fun r13 I13 L13 D13 R13 => qc_bd (rc 0 0 I13 L13 D13 R13) fun r14 I14 L14 D14 R14 => qc_bd (fX2_expect w I14 L14 D14 R14 55) fun r15 I15 L15 D15 R15 => some (r14, (qc_u I15 267 6 ((I15 267 6) - (1 : Int32))), L15, D15, R15)) else (qc_bd (rc 7 0 I L D R) fun r16 I16 L16 D16 R16 => some (r16, I16, L16, D16, R16)))))))))
set_option maxRecDepth 100000 in
set_option maxHeartbeats 4000000 in
theorem tX2_part {w : qcW} {rc : qcRc} {dr : Nat} {I : qTI} {L : qTL} {D : qTD} {R : qTR} {r : Int32} {I' : qTI} {L' : qTL} {D' : qTD} {R' : qTR} (hn : qcNF ≤ w.1) (hb : qcRB ≤ dr) (hrc : qcHrc w rc dr) (hR : qc_FR R) (h : fX2_part w rc I L D R = some (r, I', L', D', R')) : qc_fm qcSX (I, L, D, R) (I', L', D', R') ∧ qc_V (dr + 1) 0 0 qmX2_part [.ref 267] w (I, L, D, R) (qc_eq (some (.int r)) w (I', L', D', R')) := by
  unfold fX2_part at h
  refine And.imp_right (fun hx => qc_V.of rfl rfl (Nat.le_of_ble_eq_true rfl) (lv := [(0, .ref 267)]) rfl hx) ?_
  refine And.imp_right (fun hx => qc_aload_n (qc_at qkX2_part 0 rfl) rfl <| qc_gR (qc_at qkX2_part 1 rfl) hn rfl (qfr_267_0 hR) rfl <| hx) ?_
  obtain ⟨g4, h⟩ := qc_gd_of h
  replace g4 := qc_l62_of g4
  refine And.imp_right (fun hx => qc_gR (qc_at qkX2_part 2 rfl) hn rfl rfl (qc_ne62 g4) <| qc_astore_n (lv' := [(1, _), (0, _)]) (qc_at qkX2_part 3 rfl) rfl rfl <| qc_aload_n (qc_at qkX2_part 4 rfl) rfl <| qc_gS (qc_at qkX2_part 5 rfl) rfl <| hx) ?_
  refine qc_andN (qc_acmp_ne (qc_at qkX2_part 6 rfl) (Or.inl g4) (Or.inl (by decide))) (fun u5 => ?_) (fun u5 => ?_)
  · replace h := qc_jn u5 h
    refine And.imp_right (fun hx => qc_aload_n (qc_at qkX2_part 15 rfl) rfl <| qc_gS (qc_at qkX2_part 16 rfl) rfl <| hx) ?_
    refine qc_andN (qc_acmp_ne (qc_at qkX2_part 17 rfl) (Or.inl g4) (Or.inl (by decide))) (fun u6 => ?_) (fun u6 => ?_)
    · replace h := qc_jn u6 h
      refine And.imp_right (fun hx => qc_aload_n (qc_at qkX2_part 25 rfl) rfl <| qc_gS (qc_at qkX2_part 26 rfl) rfl <| hx) ?_
      refine qc_andN (qc_acmp_ne (qc_at qkX2_part 27 rfl) (Or.inl g4) (Or.inl (by decide))) (fun u7 => ?_) (fun u7 => ?_)
      · replace h := qc_jn u7 h
        refine And.imp_right (fun hx => qc_aload_n (qc_at qkX2_part 34 rfl) rfl <| qc_gS (qc_at qkX2_part 35 rfl) rfl <| hx) ?_
        refine qc_andC (qc_acmp_eq (qc_at qkX2_part 36 rfl) (Or.inl g4) (Or.inl (by decide))) (fun u8 => ?_) (fun u8 => ?_)
        · replace h := qc_jp u8 h
          exact And.imp_right (fun hx => qc_sub [1, 0] rfl hx) (tX2_part_b76 hn hb hrc hR h)
        · replace h := qc_jn u8 h
          refine And.imp_right (fun hx => qc_aload_n (qc_at qkX2_part 37 rfl) rfl <| qc_gS (qc_at qkX2_part 38 rfl) rfl <| hx) ?_
          refine qc_andN (qc_acmp_ne (qc_at qkX2_part 39 rfl) (Or.inl g4) (Or.inl (by decide))) (fun u9 => ?_) (fun u9 => ?_)
          · replace h := qc_jn u9 h
            refine And.imp_right (fun hx => qc_aload_n (qc_at qkX2_part 51 rfl) rfl <| qc_gS (qc_at qkX2_part 52 rfl) rfl <| hx) ?_
            refine qc_andN (qc_acmp_ne (qc_at qkX2_part 53 rfl) (Or.inl g4) (Or.inl (by decide))) (fun u10 => ?_) (fun u10 => ?_)
            · replace h := qc_jn u10 h
              refine And.imp_right (fun hx => qc_aload_n (qc_at qkX2_part 57 rfl) rfl <| qc_gS (qc_at qkX2_part 58 rfl) rfl <| hx) ?_
              refine qc_andC (qc_acmp_eq (qc_at qkX2_part 59 rfl) (Or.inl g4) (Or.inl (by decide))) (fun u11 => ?_) (fun u11 => ?_)
              · replace h := qc_jp u11 h
                refine And.imp_right (fun hx => qc_aload_n (qc_at qkX2_part 63 rfl) rfl <| hx) ?_
                obtain ⟨r12, I12, L12, D12, R12, e12, h⟩ := qc_bd_of h
                have c12 := (tX2_openOne hn hR e12)
                refine qd_cVn (ci := 2) (a0 := 267) (qc_at qkX2_part 64 rfl) ql_2_221 qfX2_openOne (qc_kf hn rfl) rfl c12 rfl rfl (Nat.le_of_ble_eq_true rfl) (qc_rml (Nat.le_trans (by decide) hb) (by decide)) ⟨Nat.zero_le _, Nat.zero_le _⟩ ?_
                refine And.imp_right (fun hx => qc_aload_n (qc_at qkX2_part 65 rfl) rfl <| qc_gR (qc_at qkX2_part 66 rfl) hn rfl (qfr_267_0 (c12.1.1 hR)) rfl <| hx) ?_
                obtain ⟨r13, I13, L13, D13, R13, e13, h⟩ := qc_bd_of h
                have c13 := (tX9_take hn (c12.1.1 hR) e13)
                refine qd_cVn (ci := 7) (a0 := 268) (qc_at qkX2_part 67 rfl) ql_2_195 qfX9_take (qc_kf hn rfl) rfl c13 rfl rfl (Nat.le_of_ble_eq_true rfl) (qc_rml (Nat.le_trans (by decide) hb) (by decide)) ⟨Nat.zero_le _, Nat.zero_le _⟩ ?_
                refine And.imp_right (fun hx => qc_aload_n (qc_at qkX2_part 68 rfl) rfl <| hx) ?_
                obtain ⟨r14, I14, L14, D14, R14, e14, h⟩ := qc_bd_of h
                have c14 := (qd_rc0 hrc (c13.1.1 (c12.1.1 hR)) e14)
                refine qd_cVv (ci := 2) (a0 := 267) (qc_at qkX2_part 69 rfl) ql_2_105 qfX2_sum (qc_kf hn rfl) rfl c14 rfl rfl (Nat.le_of_ble_eq_true rfl) (qc_rml (Nat.le_refl _) (by decide)) ⟨Nat.zero_le _, Nat.zero_le _⟩ ?_
                refine And.imp_right (fun hx => qc_istore_n (lv' := [(2, _), (1, _), (0, _)]) (qc_at qkX2_part 70 rfl) rfl rfl <| qc_aload_n (qc_at qkX2_part 71 rfl) rfl <| qc_gS (qc_at qkX2_part 72 rfl) rfl <| hx) ?_
                obtain ⟨r15, I15, L15, D15, R15, e15, h⟩ := qc_bd_of h
                have c15 := (tX2_expect hn (c14.1.1 (c13.1.1 (c12.1.1 hR))) e15)
                refine qd_cVn (ci := 2) (a0 := 267) (qc_at qkX2_part 73 rfl) ql_2_89 qfX2_expect (qc_kf hn rfl) rfl c15 rfl rfl (Nat.le_of_ble_eq_true rfl) (qc_rml (Nat.le_trans (by decide) hb) (by decide)) ⟨Nat.zero_le _, Nat.zero_le _⟩ ?_
                refine And.imp_right (fun hx => qc_aload_n (qc_at qkX2_part 74 rfl) rfl <| qc_dup (qc_at qkX2_part 75 rfl) rfl <| qc_gI (qc_at qkX2_part 76 rfl) hn rfl <| qc_iconst (qc_at qkX2_part 77 rfl) <| qc_isub (qc_at qkX2_part 78 rfl) <| hx) (qd_pI (qc_at qkX2_part 79 rfl) hn rfl rfl ?_)
                obtain ⟨rfl, rfl, rfl, rfl, rfl⟩ := qc_some5 h
                exact ⟨qc_fm.rf _, qc_iload_n (qc_at qkX2_part 80 rfl) rfl <| qc_iret (qc_at qkX2_part 81 rfl) rfl (Nat.le_refl _) (Nat.le_refl _) (qc_eq.rf _ _ _)⟩
              · replace h := qc_jn u11 h
                refine And.imp_right (fun hx => qc_aload_n (qc_at qkX2_part 60 rfl) rfl <| hx) ?_
                obtain ⟨r16, I16, L16, D16, R16, e16, h⟩ := qc_bd_of h
                have c16 := (qd_rc7 hrc hR e16)
                refine qd_cVv (ci := 2) (a0 := 267) (qc_at qkX2_part 61 rfl) ql_2_324 qfX2_function (qc_kf hn rfl) rfl c16 rfl rfl (Nat.le_of_ble_eq_true rfl) (qc_rml (Nat.le_refl _) (by decide)) ⟨Nat.zero_le _, Nat.zero_le _⟩ ?_
                obtain ⟨rfl, rfl, rfl, rfl, rfl⟩ := qc_some5 h
                exact ⟨qc_fm.rf _, qc_iret (qc_at qkX2_part 62 rfl) rfl (Nat.le_refl _) (Nat.le_refl _) (qc_eq.rf _ _ _)⟩
            · replace h := qc_jp u10 h
              refine And.imp_right (fun hx => qc_aload_n (qc_at qkX2_part 54 rfl) rfl <| hx) ?_
              obtain ⟨r17, I17, L17, D17, R17, e17, h⟩ := qc_bd_of h
              have c17 := (qd_rc6 hrc hR e17)
              refine qd_cVv (ci := 2) (a0 := 267) (qc_at qkX2_part 55 rfl) ql_2_318 qfX2_cellOf (qc_kf hn rfl) rfl c17 rfl rfl (Nat.le_of_ble_eq_true rfl) (qc_rml (Nat.le_refl _) (by decide)) ⟨Nat.zero_le _, Nat.zero_le _⟩ ?_
              obtain ⟨rfl, rfl, rfl, rfl, rfl⟩ := qc_some5 h
              exact ⟨qc_fm.rf _, qc_iret (qc_at qkX2_part 56 rfl) rfl (Nat.le_refl _) (Nat.le_refl _) (qc_eq.rf _ _ _)⟩
          · replace h := qc_jp u9 h
            exact And.imp_right (fun hx => qc_sub [1, 0] rfl hx) (tX2_part_b76 hn hb hrc hR h)
      · replace h := qc_jp u7 h
        refine And.imp_right (fun hx => qc_aload_n (qc_at qkX2_part 28 rfl) rfl <| qc_iconst (qc_at qkX2_part 29 rfl) <| qc_iconst (qc_at qkX2_part 30 rfl) <| qc_iconst (qc_at qkX2_part 31 rfl) <| hx) ?_
        obtain ⟨r18, I18, L18, D18, R18, e18, h⟩ := qc_bd_of h
        have c18 := (tX2_laid hn hR e18)
        refine qd_cVv (ci := 2) (a0 := 267) (qc_at qkX2_part 32 rfl) ql_2_299 qfX2_laid (qc_kf hn rfl) rfl c18 rfl rfl (Nat.le_of_ble_eq_true rfl) (qc_rml (Nat.le_trans (by decide) hb) (by decide)) ⟨Nat.zero_le _, Nat.zero_le _⟩ ?_
        obtain ⟨rfl, rfl, rfl, rfl, rfl⟩ := qc_some5 h
        exact ⟨qc_fm.rf _, qc_iret (qc_at qkX2_part 33 rfl) rfl (Nat.le_refl _) (Nat.le_refl _) (qc_eq.rf _ _ _)⟩
    · replace h := qc_jp u6 h
      refine And.imp_right (fun hx => qc_aload_n (qc_at qkX2_part 18 rfl) rfl <| qc_iconst (qc_at qkX2_part 19 rfl) <| qc_aload_n (qc_at qkX2_part 20 rfl) rfl <| hx) ?_
      obtain ⟨r19, I19, L19, D19, R19, e19, h⟩ := qc_bd_of h
      have c19 := (tX2_keepReal hn hR e19)
      refine qd_cVv (ci := 2) (a0 := 267) (qc_at qkX2_part 21 rfl) ql_2_306 qfX2_keepReal (qc_kf hn rfl) rfl c19 rfl rfl (Nat.le_of_ble_eq_true rfl) (qc_rml (Nat.le_trans (by decide) hb) (by decide)) ⟨Nat.zero_le _, Nat.zero_le _⟩ ?_
      refine And.imp_right (fun hx => qc_iconst (qc_at qkX2_part 22 rfl) <| hx) ?_
      obtain ⟨r20, I20, L20, D20, R20, e20, h⟩ := qc_bd_of h
      have c20 := (tX2_laid hn (c19.1.1 hR) e20)
      refine qd_cVv (ci := 2) (a0 := 267) (qc_at qkX2_part 23 rfl) ql_2_299 qfX2_laid (qc_kf hn rfl) rfl c20 rfl rfl (Nat.le_of_ble_eq_true rfl) (qc_rml (Nat.le_trans (by decide) hb) (by decide)) ⟨Nat.zero_le _, Nat.zero_le _⟩ ?_
      obtain ⟨rfl, rfl, rfl, rfl, rfl⟩ := qc_some5 h
      exact ⟨qc_fm.rf _, qc_iret (qc_at qkX2_part 24 rfl) rfl (Nat.le_refl _) (Nat.le_refl _) (qc_eq.rf _ _ _)⟩
  · replace h := qc_jp u5 h
    refine And.imp_right (fun hx => qc_aload_n (qc_at qkX2_part 7 rfl) rfl <| qc_iconst (qc_at qkX2_part 8 rfl) <| qc_aload_n (qc_at qkX2_part 9 rfl) rfl <| qc_gR (qc_at qkX2_part 10 rfl) hn rfl (qfr_267_0 hR) rfl <| qc_gI (qc_at qkX2_part 11 rfl) hn rfl <| qc_iconst (qc_at qkX2_part 12 rfl) <| hx) ?_
    obtain ⟨r21, I21, L21, D21, R21, e21, h⟩ := qc_bd_of h
    have c21 := (tX2_laid hn hR e21)
    refine qd_cVv (ci := 2) (a0 := 267) (qc_at qkX2_part 13 rfl) ql_2_299 qfX2_laid (qc_kf hn rfl) rfl c21 rfl rfl (Nat.le_of_ble_eq_true rfl) (qc_rml (Nat.le_trans (by decide) hb) (by decide)) ⟨Nat.zero_le _, Nat.zero_le _⟩ ?_
    obtain ⟨rfl, rfl, rfl, rfl, rfl⟩ := qc_some5 h
    exact ⟨qc_fm.rf _, qc_iret (qc_at qkX2_part 14 rfl) rfl (Nat.le_refl _) (Nat.le_refl _) (qc_eq.rf _ _ _)⟩
def fX2_cellOf_b103 (w : qcW) (rc : qcRc) (I : qTI) (L : qTL) (D : qTD) (R : qTR) (x1 : Int32) (x2 : Int32) : qcO Int32 :=
  (qc_gd (qc_io w (R 267 4) 0) <| qc_bd (fX0_add w I L D R (R 267 4) ((10 : Int32) + x2) x1) fun r2 I2 L2 D2 R2 => qc_bd (fX1_kindOf w I2 L2 D2 R2 x2) fun r3 I3 L3 D3 R3 => some (r3, I3, L3, D3, R3))
set_option maxRecDepth 100000 in
set_option maxHeartbeats 4000000 in
theorem tX2_cellOf_b103 {w : qcW} {rc : qcRc} {dr : Nat} {I : qTI} {L : qTL} {D : qTD} {R : qTR} {x1 : Int32} {x2 : Int32} {r : Int32} {I' : qTI} {L' : qTL} {D' : qTD} {R' : qTR} (hn : qcNF ≤ w.1) (hb : qcRB ≤ dr) (hrc : qcHrc w rc dr) (hR : qc_FR R) (h : fX2_cellOf_b103 w rc I L D R x1 x2 = some (r, I', L', D', R')) : qc_fm qcSX (I, L, D, R) (I', L', D', R') ∧ qc_X (qc_rm (dr + 1) 0 0) qmX2_cellOf (qc_QM 0 0 (qc_eq (some (.int r)) w (I', L', D', R'))) 0 0 w (103, [(0, .ref 267), (1, .int x1), (2, .int x2)], [], I, L, D, R) := by
  unfold fX2_cellOf_b103 at h
  refine And.imp_right (fun hx => qc_aload_n (qc_at qkX2_cellOf 51 rfl) rfl <| hx) ?_
  obtain ⟨g1, h⟩ := qc_gd_of h
  replace g1 := qc_io_of g1
  refine And.imp_right (fun hx => qc_gR (qc_at qkX2_cellOf 52 rfl) hn rfl rfl (qc_ki255 g1) <| qc_bipush (qc_at qkX2_cellOf 53 rfl) <| qc_iload_n (qc_at qkX2_cellOf 54 rfl) rfl <| qc_iadd (qc_at qkX2_cellOf 55 rfl) <| qc_iload_n (qc_at qkX2_cellOf 56 rfl) rfl <| hx) ?_
  obtain ⟨r2, I2, L2, D2, R2, e2, h⟩ := qc_bd_of h
  have c2 := (tX0_add hn hR e2)
  refine qd_cVn (ci := 0) (qc_at qkX2_cellOf 57 rfl) ql_2_207 qfX0_add g1 rfl c2 rfl rfl (Nat.le_of_ble_eq_true rfl) (qc_rml (Nat.le_trans (by decide) hb) (by decide)) ⟨Nat.zero_le _, Nat.zero_le _⟩ ?_
  refine And.imp_right (fun hx => qc_iload_n (qc_at qkX2_cellOf 58 rfl) rfl <| hx) ?_
  obtain ⟨r3, I3, L3, D3, R3, e3, h⟩ := qc_bd_of h
  have c3 := (tX1_kindOf hn (c2.1.1 hR) e3)
  refine qd_cSv (qc_at qkX2_cellOf 59 rfl) ql_2_210 qfX1_kindOf c3 rfl rfl (Nat.le_of_ble_eq_true rfl) (qc_rml (Nat.le_trans (by decide) hb) (by decide)) ⟨Nat.zero_le _, Nat.zero_le _⟩ ?_
  obtain ⟨rfl, rfl, rfl, rfl, rfl⟩ := qc_some5 h
  exact ⟨qc_fm.rf _, qc_iret (qc_at qkX2_cellOf 60 rfl) rfl (Nat.le_refl _) (Nat.le_refl _) (qc_eq.rf _ _ _)⟩
def fX2_cellOf_b87 (w : qcW) (rc : qcRc) (I : qTI) (L : qTL) (D : qTD) (R : qTR) (x1 : Int32) (x2 : Int32) (x3 : Int32) (s0 : Int32) : qcO Int32 :=
  (qc_bd (fX2_fit w I L D R s0 x3) fun r4 I4 L4 D4 R4 => fX2_cellOf_b103 w rc I4 L4 D4 R4 x1 x2)
set_option maxRecDepth 100000 in
set_option maxHeartbeats 4000000 in
theorem tX2_cellOf_b87 {w : qcW} {rc : qcRc} {dr : Nat} {I : qTI} {L : qTL} {D : qTD} {R : qTR} {x1 : Int32} {x2 : Int32} {x3 : Int32} {s0 : Int32} {r : Int32} {I' : qTI} {L' : qTL} {D' : qTD} {R' : qTR} (hn : qcNF ≤ w.1) (hb : qcRB ≤ dr) (hrc : qcHrc w rc dr) (hR : qc_FR R) (h : fX2_cellOf_b87 w rc I L D R x1 x2 x3 s0 = some (r, I', L', D', R')) : qc_fm qcSX (I, L, D, R) (I', L', D', R') ∧ qc_X (qc_rm (dr + 1) 0 0) qmX2_cellOf (qc_QM 0 0 (qc_eq (some (.int r)) w (I', L', D', R'))) 0 0 w (87, [(0, .ref 267), (1, .int x1), (2, .int x2), (3, .int x3)], [.int s0, .ref 267], I, L, D, R) := by
  unfold fX2_cellOf_b87 at h
  refine And.imp_right (fun hx => qc_iload_n (qc_at qkX2_cellOf 43 rfl) rfl <| hx) ?_
  obtain ⟨r4, I4, L4, D4, R4, e4, h⟩ := qc_bd_of h
  have c4 := (tX2_fit hn hR e4)
  refine qd_cVn (ci := 2) (a0 := 267) (qc_at qkX2_cellOf 44 rfl) ql_2_116 qfX2_fit (qc_kf hn rfl) rfl c4 rfl rfl (Nat.le_of_ble_eq_true rfl) (qc_rml (Nat.le_trans (by decide) hb) (by decide)) ⟨Nat.zero_le _, Nat.zero_le _⟩ ?_
  exact And.imp_right (fun hx => qc_goto (qc_at qkX2_cellOf 45 rfl) <| qc_sub [0, 1, 2] rfl hx) (tX2_cellOf_b103 hn hb hrc (c4.1.1 hR) h)
def fX2_cellOf (w : qcW) (rc : qcRc) (I : qTI) (L : qTL) (D : qTD) (R : qTR) : qcO Int32 :=
  (qc_bd (fX2_metColumn w I L D R) fun r5 I5 L5 D5 R5 => qc_bd (fX9_take w I5 L5 D5 R5) fun r6 I6 L6 D6 R6 => qc_gd (qc_l62 (R6 268 1)) <| if (R6 268 1) = 56 then (qc_bd (fX2_openOne w I6 L6 D6 R6) fun r11 I11 L11 D11 R11 => qc_bd (fX9_take w I11 L11 D11 R11) fun r12 I12 L12 D12 R12 => qc_bd (rc 0 0 I12 L12 D12 R12) fun r13 I13 L13 D13 R13 => qc_bd (fX2_expect w I13 L13 D13 R13 57) fun r14 I14 L14 D14 R14 => if r13 = (1 : Int32) then (fX2_cellOf_b87 w rc (qc_u I14 267 6 ((I14 267 6) - (1 : Int32))) L14 D14 R14 (I 268 4) r5 (I6 268 2) (1 : Int32)) else (fX2_cellOf_b87 w rc (qc_u I14 267 6 ((I14 267 6) - (1 : Int32))) L14 D14 R14 (I 268 4) r5 (I6 268 2) (0 : Int32))) else (qc_gd (qc_io w (R6 267 4) 0) <| qc_bd (fX0_add w I6 L6 D6 R6 (R6 267 4) (3 : Int32) (0 : Int32)) fun r10 I10 L10 D10 R10 => fX2_cellOf_b103 w rc I10 L10 D10 R10 (I 268 4) r5))
set_option maxRecDepth 100000 in
set_option maxHeartbeats 4000000 in
theorem tX2_cellOf {w : qcW} {rc : qcRc} {dr : Nat} {I : qTI} {L : qTL} {D : qTD} {R : qTR} {r : Int32} {I' : qTI} {L' : qTL} {D' : qTD} {R' : qTR} (hn : qcNF ≤ w.1) (hb : qcRB ≤ dr) (hrc : qcHrc w rc dr) (hR : qc_FR R) (h : fX2_cellOf w rc I L D R = some (r, I', L', D', R')) : qc_fm qcSX (I, L, D, R) (I', L', D', R') ∧ qc_V (dr + 1) 0 0 qmX2_cellOf [.ref 267] w (I, L, D, R) (qc_eq (some (.int r)) w (I', L', D', R')) := by
  unfold fX2_cellOf at h
  refine And.imp_right (fun hx => qc_V.of rfl rfl (Nat.le_of_ble_eq_true rfl) (lv := [(0, .ref 267)]) rfl hx) ?_
  refine And.imp_right (fun hx => qc_aload_n (qc_at qkX2_cellOf 0 rfl) rfl <| qc_gR (qc_at qkX2_cellOf 1 rfl) hn rfl (qfr_267_0 hR) rfl <| qc_gI (qc_at qkX2_cellOf 2 rfl) hn rfl <| qc_istore_n (lv' := [(1, _), (0, _)]) (qc_at qkX2_cellOf 3 rfl) rfl rfl <| qc_aload_n (qc_at qkX2_cellOf 4 rfl) rfl <| hx) ?_
  obtain ⟨r5, I5, L5, D5, R5, e5, h⟩ := qc_bd_of h
  have c5 := (tX2_metColumn hn hR e5)
  refine qd_cVv (ci := 2) (a0 := 267) (qc_at qkX2_cellOf 5 rfl) ql_2_198 qfX2_metColumn (qc_kf hn rfl) rfl c5 rfl rfl (Nat.le_of_ble_eq_true rfl) (qc_rml (Nat.le_trans (by decide) hb) (by decide)) ⟨Nat.zero_le _, Nat.zero_le _⟩ ?_
  refine And.imp_right (fun hx => qc_istore_n (lv' := [(2, _), (1, _), (0, _)]) (qc_at qkX2_cellOf 6 rfl) rfl rfl <| qc_aload_n (qc_at qkX2_cellOf 7 rfl) rfl <| qc_gR (qc_at qkX2_cellOf 8 rfl) hn rfl (qfr_267_0 (c5.1.1 hR)) rfl <| hx) ?_
  obtain ⟨r6, I6, L6, D6, R6, e6, h⟩ := qc_bd_of h
  have c6 := (tX9_take hn (c5.1.1 hR) e6)
  refine qd_cVn (ci := 7) (a0 := 268) (qc_at qkX2_cellOf 9 rfl) ql_2_195 qfX9_take (qc_kf hn rfl) rfl c6 rfl rfl (Nat.le_of_ble_eq_true rfl) (qc_rml (Nat.le_trans (by decide) hb) (by decide)) ⟨Nat.zero_le _, Nat.zero_le _⟩ ?_
  refine And.imp_right (fun hx => qc_aload_n (qc_at qkX2_cellOf 10 rfl) rfl <| qc_gR (qc_at qkX2_cellOf 11 rfl) hn rfl (qfr_267_0 (c6.1.1 (c5.1.1 hR))) rfl <| hx) ?_
  obtain ⟨g7, h⟩ := qc_gd_of h
  replace g7 := qc_l62_of g7
  refine And.imp_right (fun hx => qc_gR (qc_at qkX2_cellOf 12 rfl) hn rfl rfl (qc_ne62 g7) <| qc_gS (qc_at qkX2_cellOf 13 rfl) rfl <| hx) ?_
  refine qc_andN (qc_acmp_ne (qc_at qkX2_cellOf 14 rfl) (Or.inl g7) (Or.inl (by decide))) (fun u8 => ?_) (fun u8 => ?_)
  · replace h := qc_jn u8 h
    refine And.imp_right (fun hx => qc_aload_n (qc_at qkX2_cellOf 46 rfl) rfl <| hx) ?_
    obtain ⟨g9, h⟩ := qc_gd_of h
    replace g9 := qc_io_of g9
    refine And.imp_right (fun hx => qc_gR (qc_at qkX2_cellOf 47 rfl) hn rfl rfl (qc_ki255 g9) <| qc_iconst (qc_at qkX2_cellOf 48 rfl) <| qc_iconst (qc_at qkX2_cellOf 49 rfl) <| hx) ?_
    obtain ⟨r10, I10, L10, D10, R10, e10, h⟩ := qc_bd_of h
    have c10 := (tX0_add hn (c6.1.1 (c5.1.1 hR)) e10)
    refine qd_cVn (ci := 0) (qc_at qkX2_cellOf 50 rfl) ql_2_207 qfX0_add g9 rfl c10 rfl rfl (Nat.le_of_ble_eq_true rfl) (qc_rml (Nat.le_trans (by decide) hb) (by decide)) ⟨Nat.zero_le _, Nat.zero_le _⟩ ?_
    exact And.imp_right (fun hx => qc_sub [2, 1, 0] rfl hx) (tX2_cellOf_b103 hn hb hrc (c10.1.1 (c6.1.1 (c5.1.1 hR))) h)
  · replace h := qc_jp u8 h
    refine And.imp_right (fun hx => qc_aload_n (qc_at qkX2_cellOf 15 rfl) rfl <| qc_gR (qc_at qkX2_cellOf 16 rfl) hn rfl (qfr_267_0 (c6.1.1 (c5.1.1 hR))) rfl <| qc_gI (qc_at qkX2_cellOf 17 rfl) hn rfl <| qc_istore_n (lv' := [(3, _), (2, _), (1, _), (0, _)]) (qc_at qkX2_cellOf 18 rfl) rfl rfl <| qc_aload_n (qc_at qkX2_cellOf 19 rfl) rfl <| hx) ?_
    obtain ⟨r11, I11, L11, D11, R11, e11, h⟩ := qc_bd_of h
    have c11 := (tX2_openOne hn (c6.1.1 (c5.1.1 hR)) e11)
    refine qd_cVn (ci := 2) (a0 := 267) (qc_at qkX2_cellOf 20 rfl) ql_2_221 qfX2_openOne (qc_kf hn rfl) rfl c11 rfl rfl (Nat.le_of_ble_eq_true rfl) (qc_rml (Nat.le_trans (by decide) hb) (by decide)) ⟨Nat.zero_le _, Nat.zero_le _⟩ ?_
    refine And.imp_right (fun hx => qc_aload_n (qc_at qkX2_cellOf 21 rfl) rfl <| qc_gR (qc_at qkX2_cellOf 22 rfl) hn rfl (qfr_267_0 (c11.1.1 (c6.1.1 (c5.1.1 hR)))) rfl <| hx) ?_
    obtain ⟨r12, I12, L12, D12, R12, e12, h⟩ := qc_bd_of h
    have c12 := (tX9_take hn (c11.1.1 (c6.1.1 (c5.1.1 hR))) e12)
    refine qd_cVn (ci := 7) (a0 := 268) (qc_at qkX2_cellOf 23 rfl) ql_2_195 qfX9_take (qc_kf hn rfl) rfl c12 rfl rfl (Nat.le_of_ble_eq_true rfl) (qc_rml (Nat.le_trans (by decide) hb) (by decide)) ⟨Nat.zero_le _, Nat.zero_le _⟩ ?_
    refine And.imp_right (fun hx => qc_aload_n (qc_at qkX2_cellOf 24 rfl) rfl <| hx) ?_
    obtain ⟨r13, I13, L13, D13, R13, e13, h⟩ := qc_bd_of h
    have c13 := (qd_rc0 hrc (c12.1.1 (c11.1.1 (c6.1.1 (c5.1.1 hR)))) e13)
    refine qd_cVv (ci := 2) (a0 := 267) (qc_at qkX2_cellOf 25 rfl) ql_2_105 qfX2_sum (qc_kf hn rfl) rfl c13 rfl rfl (Nat.le_of_ble_eq_true rfl) (qc_rml (Nat.le_refl _) (by decide)) ⟨Nat.zero_le _, Nat.zero_le _⟩ ?_
    refine And.imp_right (fun hx => qc_istore (lv' := [(4, _), (3, _), (2, _), (1, _), (0, _)]) (qc_at qkX2_cellOf 26 rfl) rfl rfl <| qc_aload_n (qc_at qkX2_cellOf 27 rfl) rfl <| qc_gS (qc_at qkX2_cellOf 28 rfl) rfl <| hx) ?_
    obtain ⟨r14, I14, L14, D14, R14, e14, h⟩ := qc_bd_of h
    have c14 := (tX2_expect hn (c13.1.1 (c12.1.1 (c11.1.1 (c6.1.1 (c5.1.1 hR))))) e14)
    refine qd_cVn (ci := 2) (a0 := 267) (qc_at qkX2_cellOf 29 rfl) ql_2_89 qfX2_expect (qc_kf hn rfl) rfl c14 rfl rfl (Nat.le_of_ble_eq_true rfl) (qc_rml (Nat.le_trans (by decide) hb) (by decide)) ⟨Nat.zero_le _, Nat.zero_le _⟩ ?_
    refine And.imp_right (fun hx => qc_aload_n (qc_at qkX2_cellOf 30 rfl) rfl <| qc_dup (qc_at qkX2_cellOf 31 rfl) rfl <| qc_gI (qc_at qkX2_cellOf 32 rfl) hn rfl <| qc_iconst (qc_at qkX2_cellOf 33 rfl) <| qc_isub (qc_at qkX2_cellOf 34 rfl) <| hx) (qd_pI (qc_at qkX2_cellOf 35 rfl) hn rfl rfl ?_)
    refine And.imp_right (fun hx => qc_aload_n (qc_at qkX2_cellOf 36 rfl) rfl <| qc_iload (qc_at qkX2_cellOf 37 rfl) rfl <| qc_iconst (qc_at qkX2_cellOf 38 rfl) <| hx) ?_
    refine qc_andN (qc_icmp_ne (qc_at qkX2_cellOf 39 rfl)) (fun u15 => ?_) (fun u15 => ?_)
    · replace h := qc_jn u15 h
      exact And.imp_right (fun hx => qc_iconst (qc_at qkX2_cellOf 42 rfl) <| qc_sub [4, 3, 2, 1] rfl hx) (tX2_cellOf_b87 hn hb hrc (c14.1.1 (c13.1.1 (c12.1.1 (c11.1.1 (c6.1.1 (c5.1.1 hR)))))) h)
    · replace h := qc_jp u15 h
      exact And.imp_right (fun hx => qc_iconst (qc_at qkX2_cellOf 40 rfl) <| qc_goto (qc_at qkX2_cellOf 41 rfl) <| qc_sub [4, 3, 2, 1] rfl hx) (tX2_cellOf_b87 hn hb hrc (c14.1.1 (c13.1.1 (c12.1.1 (c11.1.1 (c6.1.1 (c5.1.1 hR)))))) h)
def fX2_function_b130 (w : qcW) (rc : qcRc) (I : qTI) (L : qTL) (D : qTD) (R : qTR) (x1 : Nat) (x2 : Int32) (x3 : Int32) (x4 : Int32) (x5 : Int32) (s0 : Int32) : qcO Int32 :=
  (qc_gd (qc_l62 x1) <| (qc_bd (fX2_fit w I L D R s0 x2) fun r2 I2 L2 D2 R2 => qc_bd (fX2_applied w I2 L2 D2 R2 x1 x3 x4 x5) fun r3 I3 L3 D3 R3 => some (r3, I3, L3, D3, R3)))
set_option maxRecDepth 100000 in
set_option maxHeartbeats 4000000 in
theorem tX2_function_b130 {w : qcW} {rc : qcRc} {dr : Nat} {I : qTI} {L : qTL} {D : qTD} {R : qTR} {x1 : Nat} {x2 : Int32} {x3 : Int32} {x4 : Int32} {x5 : Int32} {s0 : Int32} {r : Int32} {I' : qTI} {L' : qTL} {D' : qTD} {R' : qTR} (hn : qcNF ≤ w.1) (hb : qcRB ≤ dr) (hrc : qcHrc w rc dr) (hR : qc_FR R) (h : fX2_function_b130 w rc I L D R x1 x2 x3 x4 x5 s0 = some (r, I', L', D', R')) : qc_fm qcSX (I, L, D, R) (I', L', D', R') ∧ qc_X (qc_rm (dr + 1) 0 0) qmX2_function (qc_QM 0 0 (qc_eq (some (.int r)) w (I', L', D', R'))) 0 0 w (130, [(0, .ref 267), (1, .ref x1), (2, .int x2), (3, .int x3), (4, .int x4), (5, .int x5)], [.int s0, .ref 267], I, L, D, R) := by
  unfold fX2_function_b130 at h
  obtain ⟨g1, h⟩ := qc_gd_of h
  replace g1 := qc_l62_of g1
  refine And.imp_right (fun hx => qc_iload_n (qc_at qkX2_function 64 rfl) rfl <| hx) ?_
  obtain ⟨r2, I2, L2, D2, R2, e2, h⟩ := qc_bd_of h
  have c2 := (tX2_fit hn hR e2)
  refine qd_cVn (ci := 2) (a0 := 267) (qc_at qkX2_function 65 rfl) ql_2_116 qfX2_fit (qc_kf hn rfl) rfl c2 rfl rfl (Nat.le_of_ble_eq_true rfl) (qc_rml (Nat.le_trans (by decide) hb) (by decide)) ⟨Nat.zero_le _, Nat.zero_le _⟩ ?_
  refine And.imp_right (fun hx => qc_aload_n (qc_at qkX2_function 66 rfl) rfl <| qc_aload_n (qc_at qkX2_function 67 rfl) rfl <| qc_iload_n (qc_at qkX2_function 68 rfl) rfl <| qc_iload (qc_at qkX2_function 69 rfl) rfl <| qc_iload (qc_at qkX2_function 70 rfl) rfl <| hx) ?_
  obtain ⟨r3, I3, L3, D3, R3, e3, h⟩ := qc_bd_of h
  have c3 := (tX2_applied hn (c2.1.1 hR) e3)
  refine qd_cVv (ci := 2) (a0 := 267) (qc_at qkX2_function 71 rfl) ql_2_349 qfX2_applied (qc_kf hn rfl) rfl c3 rfl rfl (Nat.le_of_ble_eq_true rfl) (qc_rml (Nat.le_trans (by decide) hb) (by decide)) ⟨Nat.zero_le _, Nat.zero_le _⟩ ?_
  obtain ⟨rfl, rfl, rfl, rfl, rfl⟩ := qc_some5 h
  exact ⟨qc_fm.rf _, qc_iret (qc_at qkX2_function 72 rfl) rfl (Nat.le_refl _) (Nat.le_refl _) (qc_eq.rf _ _ _)⟩
def fX2_function_b129 (w : qcW) (rc : qcRc) (I : qTI) (L : qTL) (D : qTD) (R : qTR) (x1 : Nat) (x2 : Int32) (x3 : Int32) (x4 : Int32) (x5 : Int32) : qcO Int32 :=
  (qc_gd (qc_l62 x1) <| (fX2_function_b130 w rc I L D R x1 x2 x3 x4 x5 (0 : Int32)))
set_option maxRecDepth 100000 in
set_option maxHeartbeats 4000000 in
theorem tX2_function_b129 {w : qcW} {rc : qcRc} {dr : Nat} {I : qTI} {L : qTL} {D : qTD} {R : qTR} {x1 : Nat} {x2 : Int32} {x3 : Int32} {x4 : Int32} {x5 : Int32} {r : Int32} {I' : qTI} {L' : qTL} {D' : qTD} {R' : qTR} (hn : qcNF ≤ w.1) (hb : qcRB ≤ dr) (hrc : qcHrc w rc dr) (hR : qc_FR R) (h : fX2_function_b129 w rc I L D R x1 x2 x3 x4 x5 = some (r, I', L', D', R')) : qc_fm qcSX (I, L, D, R) (I', L', D', R') ∧ qc_X (qc_rm (dr + 1) 0 0) qmX2_function (qc_QM 0 0 (qc_eq (some (.int r)) w (I', L', D', R'))) 0 0 w (129, [(0, .ref 267), (1, .ref x1), (2, .int x2), (3, .int x3), (4, .int x4), (5, .int x5)], [.ref 267], I, L, D, R) := by
  unfold fX2_function_b129 at h
  obtain ⟨g4, h⟩ := qc_gd_of h
  replace g4 := qc_l62_of g4
  exact And.imp_right (fun hx => qc_iconst (qc_at qkX2_function 63 rfl) <| qc_sub [0, 1, 2, 3, 4, 5] rfl hx) (tX2_function_b130 hn hb hrc hR h)
def fX2_function_b98 (w : qcW) (rc : qcRc) (I : qTI) (L : qTL) (D : qTD) (R : qTR) (x1 : Nat) (x2 : Int32) (x3 : Int32) (x4 : Int32) (x5 : Int32) : qcO Int32 :=
  (qc_gd (qc_l62 x1) <| (qc_bd (fX2_expect w I L D R 55) fun r6 I6 L6 D6 R6 => if x3 = 0 then (fX2_function_b129 w rc (qc_u I6 267 6 ((I6 267 6) - (1 : Int32))) L6 D6 R6 x1 x2 x3 x4 x5) else (if x5 = 0 then (fX2_function_b129 w rc (qc_u I6 267 6 ((I6 267 6) - (1 : Int32))) L6 D6 R6 x1 x2 x3 x4 x5) else (fX2_function_b130 w rc (qc_u I6 267 6 ((I6 267 6) - (1 : Int32))) L6 D6 R6 x1 x2 x3 x4 x5 (1 : Int32)))))
set_option maxRecDepth 100000 in
set_option maxHeartbeats 4000000 in
theorem tX2_function_b98 {w : qcW} {rc : qcRc} {dr : Nat} {I : qTI} {L : qTL} {D : qTD} {R : qTR} {x1 : Nat} {x2 : Int32} {x3 : Int32} {x4 : Int32} {x5 : Int32} {r : Int32} {I' : qTI} {L' : qTL} {D' : qTD} {R' : qTR} (hn : qcNF ≤ w.1) (hb : qcRB ≤ dr) (hrc : qcHrc w rc dr) (hR : qc_FR R) (h : fX2_function_b98 w rc I L D R x1 x2 x3 x4 x5 = some (r, I', L', D', R')) : qc_fm qcSX (I, L, D, R) (I', L', D', R') ∧ qc_X (qc_rm (dr + 1) 0 0) qmX2_function (qc_QM 0 0 (qc_eq (some (.int r)) w (I', L', D', R'))) 0 0 w (98, [(0, .ref 267), (1, .ref x1), (2, .int x2), (3, .int x3), (4, .int x4), (5, .int x5)], [], I, L, D, R) := by
  unfold fX2_function_b98 at h
  obtain ⟨g5, h⟩ := qc_gd_of h
  replace g5 := qc_l62_of g5
  refine And.imp_right (fun hx => qc_aload_n (qc_at qkX2_function 47 rfl) rfl <| qc_gS (qc_at qkX2_function 48 rfl) rfl <| hx) ?_
  obtain ⟨r6, I6, L6, D6, R6, e6, h⟩ := qc_bd_of h
  have c6 := (tX2_expect hn hR e6)
  refine qd_cVn (ci := 2) (a0 := 267) (qc_at qkX2_function 49 rfl) ql_2_89 qfX2_expect (qc_kf hn rfl) rfl c6 rfl rfl (Nat.le_of_ble_eq_true rfl) (qc_rml (Nat.le_trans (by decide) hb) (by decide)) ⟨Nat.zero_le _, Nat.zero_le _⟩ ?_
  refine And.imp_right (fun hx => qc_aload_n (qc_at qkX2_function 50 rfl) rfl <| qc_dup (qc_at qkX2_function 51 rfl) rfl <| qc_gI (qc_at qkX2_function 52 rfl) hn rfl <| qc_iconst (qc_at qkX2_function 53 rfl) <| qc_isub (qc_at qkX2_function 54 rfl) <| hx) (qd_pI (qc_at qkX2_function 55 rfl) hn rfl rfl ?_)
  refine And.imp_right (fun hx => qc_aload_n (qc_at qkX2_function 56 rfl) rfl <| qc_iload_n (qc_at qkX2_function 57 rfl) rfl <| hx) ?_
  refine qc_andC (qc_if_eq (qc_at qkX2_function 58 rfl)) (fun u7 => ?_) (fun u7 => ?_)
  · replace h := qc_jp u7 h
    exact And.imp_right (fun hx => qc_sub [0, 1, 2, 3, 4, 5] rfl hx) (tX2_function_b129 hn hb hrc (c6.1.1 hR) h)
  · replace h := qc_jn u7 h
    refine And.imp_right (fun hx => qc_iload (qc_at qkX2_function 59 rfl) rfl <| hx) ?_
    refine qc_andC (qc_if_eq (qc_at qkX2_function 60 rfl)) (fun u8 => ?_) (fun u8 => ?_)
    · replace h := qc_jp u8 h
      exact And.imp_right (fun hx => qc_sub [0, 1, 2, 3, 4, 5] rfl hx) (tX2_function_b129 hn hb hrc (c6.1.1 hR) h)
    · replace h := qc_jn u8 h
      exact And.imp_right (fun hx => qc_iconst (qc_at qkX2_function 61 rfl) <| qc_goto (qc_at qkX2_function 62 rfl) <| qc_sub [0, 1, 2, 3, 4, 5] rfl hx) (tX2_function_b130 hn hb hrc (c6.1.1 hR) h)
def fX2_function_b53 (w : qcW) (rc : qcRc) (I : qTI) (L : qTL) (D : qTD) (R : qTR) (x1 : Nat) (x2 : Int32) : qcO Int32 :=
  (qc_gd (qc_l62 x1) <| (qc_bd (fX2_expect w I L D R 54) fun r10 I10 L10 D10 R10 => qc_bd (rc 0 0 I10 L10 D10 R10) fun r11 I11 L11 D11 R11 => qc_gd (qc_io w (R11 267 4) 0) <| if (qc_mfV 2 x1) = (2 : Int32) then (qc_bd (fX2_expect w I11 L11 D11 R11 58) fun r14 I14 L14 D14 R14 => qc_bd (rc 0 0 I14 L14 D14 R14) fun r15 I15 L15 D15 R15 => fX2_function_b98 w rc I15 L15 D15 R15 x1 x2 r11 (I11 (R11 267 4) 2) r15) else (fX2_function_b98 w rc I11 L11 D11 R11 x1 x2 r11 (I11 (R11 267 4) 2) r11)))
set_option maxRecDepth 100000 in
set_option maxHeartbeats 4000000 in
theorem tX2_function_b53 {w : qcW} {rc : qcRc} {dr : Nat} {I : qTI} {L : qTL} {D : qTD} {R : qTR} {x1 : Nat} {x2 : Int32} {r : Int32} {I' : qTI} {L' : qTL} {D' : qTD} {R' : qTR} (hn : qcNF ≤ w.1) (hb : qcRB ≤ dr) (hrc : qcHrc w rc dr) (hR : qc_FR R) (h : fX2_function_b53 w rc I L D R x1 x2 = some (r, I', L', D', R')) : qc_fm qcSX (I, L, D, R) (I', L', D', R') ∧ qc_X (qc_rm (dr + 1) 0 0) qmX2_function (qc_QM 0 0 (qc_eq (some (.int r)) w (I', L', D', R'))) 0 0 w (53, [(0, .ref 267), (1, .ref x1), (2, .int x2)], [], I, L, D, R) := by
  unfold fX2_function_b53 at h
  obtain ⟨g9, h⟩ := qc_gd_of h
  replace g9 := qc_l62_of g9
  refine And.imp_right (fun hx => qc_aload_n (qc_at qkX2_function 25 rfl) rfl <| qc_gS (qc_at qkX2_function 26 rfl) rfl <| hx) ?_
  obtain ⟨r10, I10, L10, D10, R10, e10, h⟩ := qc_bd_of h
  have c10 := (tX2_expect hn hR e10)
  refine qd_cVn (ci := 2) (a0 := 267) (qc_at qkX2_function 27 rfl) ql_2_89 qfX2_expect (qc_kf hn rfl) rfl c10 rfl rfl (Nat.le_of_ble_eq_true rfl) (qc_rml (Nat.le_trans (by decide) hb) (by decide)) ⟨Nat.zero_le _, Nat.zero_le _⟩ ?_
  refine And.imp_right (fun hx => qc_aload_n (qc_at qkX2_function 28 rfl) rfl <| hx) ?_
  obtain ⟨r11, I11, L11, D11, R11, e11, h⟩ := qc_bd_of h
  have c11 := (qd_rc0 hrc (c10.1.1 hR) e11)
  refine qd_cVv (ci := 2) (a0 := 267) (qc_at qkX2_function 29 rfl) ql_2_105 qfX2_sum (qc_kf hn rfl) rfl c11 rfl rfl (Nat.le_of_ble_eq_true rfl) (qc_rml (Nat.le_refl _) (by decide)) ⟨Nat.zero_le _, Nat.zero_le _⟩ ?_
  refine And.imp_right (fun hx => qc_istore_n (lv' := [(3, _), (0, _), (1, _), (2, _)]) (qc_at qkX2_function 30 rfl) rfl rfl <| qc_aload_n (qc_at qkX2_function 31 rfl) rfl <| hx) ?_
  obtain ⟨g12, h⟩ := qc_gd_of h
  replace g12 := qc_io_of g12
  refine And.imp_right (fun hx => qc_gR (qc_at qkX2_function 32 rfl) hn rfl rfl (qc_ki255 g12) <| qc_gId (qc_at qkX2_function 33 rfl) g12 rfl <| qc_istore (lv' := [(4, _), (3, _), (0, _), (1, _), (2, _)]) (qc_at qkX2_function 34 rfl) rfl rfl <| qc_iload_n (qc_at qkX2_function 35 rfl) rfl <| qc_istore (lv' := [(5, _), (4, _), (3, _), (0, _), (1, _), (2, _)]) (qc_at qkX2_function 36 rfl) rfl rfl <| qc_aload_n (qc_at qkX2_function 37 rfl) rfl <| qc_gM (qc_at qkX2_function 38 rfl) g9 <| qc_iconst (qc_at qkX2_function 39 rfl) <| hx) ?_
  refine qc_andN (qc_icmp_ne (qc_at qkX2_function 40 rfl)) (fun u13 => ?_) (fun u13 => ?_)
  · replace h := qc_jn u13 h
    exact And.imp_right (fun hx => qc_sub [3, 4, 5, 2, 1, 0] rfl hx) (tX2_function_b98 hn hb hrc (c11.1.1 (c10.1.1 hR)) h)
  · replace h := qc_jp u13 h
    refine And.imp_right (fun hx => qc_aload_n (qc_at qkX2_function 41 rfl) rfl <| qc_gS (qc_at qkX2_function 42 rfl) rfl <| hx) ?_
    obtain ⟨r14, I14, L14, D14, R14, e14, h⟩ := qc_bd_of h
    have c14 := (tX2_expect hn (c11.1.1 (c10.1.1 hR)) e14)
    refine qd_cVn (ci := 2) (a0 := 267) (qc_at qkX2_function 43 rfl) ql_2_89 qfX2_expect (qc_kf hn rfl) rfl c14 rfl rfl (Nat.le_of_ble_eq_true rfl) (qc_rml (Nat.le_trans (by decide) hb) (by decide)) ⟨Nat.zero_le _, Nat.zero_le _⟩ ?_
    refine And.imp_right (fun hx => qc_aload_n (qc_at qkX2_function 44 rfl) rfl <| hx) ?_
    obtain ⟨r15, I15, L15, D15, R15, e15, h⟩ := qc_bd_of h
    have c15 := (qd_rc0 hrc (c14.1.1 (c11.1.1 (c10.1.1 hR))) e15)
    refine qd_cVv (ci := 2) (a0 := 267) (qc_at qkX2_function 45 rfl) ql_2_105 qfX2_sum (qc_kf hn rfl) rfl c15 rfl rfl (Nat.le_of_ble_eq_true rfl) (qc_rml (Nat.le_refl _) (by decide)) ⟨Nat.zero_le _, Nat.zero_le _⟩ ?_
    exact And.imp_right (fun hx => qc_istore (lv' := [(5, _), (4, _), (3, _), (0, _), (1, _), (2, _)]) (qc_at qkX2_function 46 rfl) rfl rfl <| qc_sub [3, 4, 5, 2, 1, 0] rfl hx) (tX2_function_b98 hn hb hrc (c15.1.1 (c14.1.1 (c11.1.1 (c10.1.1 hR)))) h)
def fX2_function (w : qcW) (rc : qcRc) (I : qTI) (L : qTL) (D : qTD) (R : qTR) : qcO Int32 :=
  (qc_gd (qc_l62 (R 268 1)) <| if (qc_mfV 2 (R 268 1)) = 0 then (qc_bd (fX2_misplaced w I L D R) fun r22 I22 L22 D22 R22 => some ((0 : Int32), I22, L22, D22, R22)) else (qc_bd (fX9_take w I L D R) fun r18 I18 L18 D18 R18 => qc_gd (qc_l62 (R18 268 1)) <| if (R18 268 1) = 54 then (qc_bd (fX2_openOne w I18 L18 D18 R18) fun r21 I21 L21 D21 R21 => fX2_function_b53 w rc I21 L21 D21 R21 (R 268 1) (I18 268 2)) else (fX2_function_b53 w rc I18 L18 D18 R18 (R 268 1) (I18 268 2))))
set_option maxRecDepth 100000 in
set_option maxHeartbeats 4000000 in
theorem tX2_function {w : qcW} {rc : qcRc} {dr : Nat} {I : qTI} {L : qTL} {D : qTD} {R : qTR} {r : Int32} {I' : qTI} {L' : qTL} {D' : qTD} {R' : qTR} (hn : qcNF ≤ w.1) (hb : qcRB ≤ dr) (hrc : qcHrc w rc dr) (hR : qc_FR R) (h : fX2_function w rc I L D R = some (r, I', L', D', R')) : qc_fm qcSX (I, L, D, R) (I', L', D', R') ∧ qc_V (dr + 1) 0 0 qmX2_function [.ref 267] w (I, L, D, R) (qc_eq (some (.int r)) w (I', L', D', R')) := by
  unfold fX2_function at h
  refine And.imp_right (fun hx => qc_V.of rfl rfl (Nat.le_of_ble_eq_true rfl) (lv := [(0, .ref 267)]) rfl hx) ?_
  refine And.imp_right (fun hx => qc_aload_n (qc_at qkX2_function 0 rfl) rfl <| qc_gR (qc_at qkX2_function 1 rfl) hn rfl (qfr_267_0 hR) rfl <| hx) ?_
  obtain ⟨g16, h⟩ := qc_gd_of h
  replace g16 := qc_l62_of g16
  refine And.imp_right (fun hx => qc_gR (qc_at qkX2_function 2 rfl) hn rfl rfl (qc_ne62 g16) <| qc_astore_n (lv' := [(1, _), (0, _)]) (qc_at qkX2_function 3 rfl) rfl rfl <| qc_aload_n (qc_at qkX2_function 4 rfl) rfl <| qc_gM (qc_at qkX2_function 5 rfl) g16 <| hx) ?_
  refine qc_andN (qc_if_ne (qc_at qkX2_function 6 rfl)) (fun u17 => ?_) (fun u17 => ?_)
  · replace h := qc_jn u17 h
    refine And.imp_right (fun hx => qc_aload_n (qc_at qkX2_function 11 rfl) rfl <| qc_gR (qc_at qkX2_function 12 rfl) hn rfl (qfr_267_0 hR) rfl <| hx) ?_
    obtain ⟨r18, I18, L18, D18, R18, e18, h⟩ := qc_bd_of h
    have c18 := (tX9_take hn hR e18)
    refine qd_cVn (ci := 7) (a0 := 268) (qc_at qkX2_function 13 rfl) ql_2_195 qfX9_take (qc_kf hn rfl) rfl c18 rfl rfl (Nat.le_of_ble_eq_true rfl) (qc_rml (Nat.le_trans (by decide) hb) (by decide)) ⟨Nat.zero_le _, Nat.zero_le _⟩ ?_
    refine And.imp_right (fun hx => qc_aload_n (qc_at qkX2_function 14 rfl) rfl <| qc_gR (qc_at qkX2_function 15 rfl) hn rfl (qfr_267_0 (c18.1.1 hR)) rfl <| qc_gI (qc_at qkX2_function 16 rfl) hn rfl <| qc_istore_n (lv' := [(2, _), (1, _), (0, _)]) (qc_at qkX2_function 17 rfl) rfl rfl <| qc_aload_n (qc_at qkX2_function 18 rfl) rfl <| qc_gR (qc_at qkX2_function 19 rfl) hn rfl (qfr_267_0 (c18.1.1 hR)) rfl <| hx) ?_
    obtain ⟨g19, h⟩ := qc_gd_of h
    replace g19 := qc_l62_of g19
    refine And.imp_right (fun hx => qc_gR (qc_at qkX2_function 20 rfl) hn rfl rfl (qc_ne62 g19) <| qc_gS (qc_at qkX2_function 21 rfl) rfl <| hx) ?_
    refine qc_andN (qc_acmp_ne (qc_at qkX2_function 22 rfl) (Or.inl g19) (Or.inl (by decide))) (fun u20 => ?_) (fun u20 => ?_)
    · replace h := qc_jn u20 h
      exact And.imp_right (fun hx => qc_sub [2, 1, 0] rfl hx) (tX2_function_b53 hn hb hrc (c18.1.1 hR) h)
    · replace h := qc_jp u20 h
      refine And.imp_right (fun hx => qc_aload_n (qc_at qkX2_function 23 rfl) rfl <| hx) ?_
      obtain ⟨r21, I21, L21, D21, R21, e21, h⟩ := qc_bd_of h
      have c21 := (tX2_openOne hn (c18.1.1 hR) e21)
      refine qd_cVn (ci := 2) (a0 := 267) (qc_at qkX2_function 24 rfl) ql_2_221 qfX2_openOne (qc_kf hn rfl) rfl c21 rfl rfl (Nat.le_of_ble_eq_true rfl) (qc_rml (Nat.le_trans (by decide) hb) (by decide)) ⟨Nat.zero_le _, Nat.zero_le _⟩ ?_
      exact And.imp_right (fun hx => qc_sub [2, 1, 0] rfl hx) (tX2_function_b53 hn hb hrc (c21.1.1 (c18.1.1 hR)) h)
  · replace h := qc_jp u17 h
    refine And.imp_right (fun hx => qc_aload_n (qc_at qkX2_function 7 rfl) rfl <| hx) ?_
    obtain ⟨r22, I22, L22, D22, R22, e22, h⟩ := qc_bd_of h
    have c22 := (tX2_misplaced hn hR e22)
    refine qd_cVn (ci := 2) (a0 := 267) (qc_at qkX2_function 8 rfl) ql_2_126 qfX2_misplaced (qc_kf hn rfl) rfl c22 rfl rfl (Nat.le_of_ble_eq_true rfl) (qc_rml (Nat.le_trans (by decide) hb) (by decide)) ⟨Nat.zero_le _, Nat.zero_le _⟩ ?_
    obtain ⟨rfl, rfl, rfl, rfl, rfl⟩ := qc_some5 h
    exact ⟨qc_fm.rf _, qc_iconst (qc_at qkX2_function 9 rfl) <| qc_iret (qc_at qkX2_function 10 rfl) rfl (Nat.le_refl _) (Nat.le_refl _) (qc_eq.rf _ _ _)⟩
def fX2_rc (w : qcW) : Nat → qcRc
  | 0 => fun _ _ _ _ _ _ => none
  | n + 1 => fun id x I L D R => match id with
    | 0 => fX2_sum w (fX2_rc w n) I L D R
    | 1 => fX2_choice w (fX2_rc w n) I L D R x
    | 2 => fX2_joined w (fX2_rc w n) I L D R x
    | 3 => fX2_denied w (fX2_rc w n) I L D R
    | 4 => fX2_signed w (fX2_rc w n) I L D R
    | 5 => fX2_part w (fX2_rc w n) I L D R
    | 6 => fX2_cellOf w (fX2_rc w n) I L D R
    | 7 => fX2_function w (fX2_rc w n) I L D R
    | _ => none
set_option maxRecDepth 100000 in
set_option maxHeartbeats 4000000 in
theorem tX2_rc {w : qcW} (hn : qcNF ≤ w.1) : ∀ n, qcHrc w (fX2_rc w n) (qcRB + n)
  | 0 => fun _ _ _ _ _ _ _ _ _ _ _ _ h => by cases h
  | n + 1 => fun id x _ _ _ _ _ _ _ _ _ hR h => match id, h with
    | 0, h => tX2_sum hn (Nat.le_add_right _ _) (tX2_rc hn n) hR h
    | 1, h => tX2_choice hn (Nat.le_add_right _ _) (tX2_rc hn n) hR h
    | 2, h => tX2_joined hn (Nat.le_add_right _ _) (tX2_rc hn n) hR h
    | 3, h => tX2_denied hn (Nat.le_add_right _ _) (tX2_rc hn n) hR h
    | 4, h => tX2_signed hn (Nat.le_add_right _ _) (tX2_rc hn n) hR h
    | 5, h => tX2_part hn (Nat.le_add_right _ _) (tX2_rc hn n) hR h
    | 6, h => tX2_cellOf hn (Nat.le_add_right _ _) (tX2_rc hn n) hR h
    | 7, h => tX2_function hn (Nat.le_add_right _ _) (tX2_rc hn n) hR h
    | _ + 8, h => by cases h
