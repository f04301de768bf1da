/-! the class reads as the spec does: choices; all tags -/
section
variable {w : qcW} {b ln : Nat → Nat} {len : Nat} {I I1 : qTI} {L : qTL} {D D1 : qTD} {R R1 : qTR} {c nc o h pk n : Nat} {l : List (Nat × Nat)} {st st1 : qP} {q : qDen × qP} {e : Nat × Nat}
def zC3 (w : qcW) (rc : qcRc) (r15 x4 x5 r19 r24 : Int32) (I : qTI) (L : qTL) (D : qTD) (R : qTR) : qcO Int32 := if r15 = 0 then (fX2_choice_b125 w rc (qc_u I 267 6 ((I 267 6) - (1 : Int32))) L D R r15 x4 x5 r19 r24 (1 : Int32)) else (fX2_choice_b125 w rc (qc_u I 267 6 ((I 267 6) - (1 : Int32))) L D R r15 x4 x5 r19 r24 (0 : Int32))
def zC4 (w : qcW) (rc : qcRc) (r14 r15 x4 : Int32) (I16 : qTI) (L16 : qTL) (D16 : qTD) (R16 : qTR) : qcO Int32 := qc_gd (qc_io w (R16 267 4) 0) <| qc_gd (qc_io w (R16 267 4) 0) <| qc_bd (fX0_addJump w I16 L16 D16 R16 (R16 267 4) (1802 : Int32)) fun r19 I19 L19 D19 R19 => qc_gd (qc_io w (R19 267 4) 0) <| qc_bd (fX0_aim w I19 L19 D19 R19 (R19 267 4) r14) fun r21 I21 L21 D21 R21 => qc_gd (qc_io w (R21 267 4) 0) <| qc_bd (fX0_otherWay w I21 L21 D21 R21 (R21 267 4)) fun r23 I23 L23 D23 R23 => qc_bd (rc 0 0 I23 L23 D23 R23) fun r24 I24 L24 D24 R24 => zC3 w rc r15 x4 (I16 (R16 267 4) 2) r19 r24 I24 L24 D24 R24
def zC6 (w : qcW) (rc : qcRc) (I12 : qTI) (L12 : qTL) (D12 : qTD) (R12 : qTR) : qcO Int32 := qc_gd (qc_io w (R12 267 4) 0) <| qc_bd (fX0_addJump w I12 L12 D12 R12 (R12 267 4) (1800 : Int32)) fun r14 I14 L14 D14 R14 => qc_bd (rc 0 0 I14 L14 D14 R14) fun r15 I15 L15 D15 R15 => qc_bd (fX2_expect w I15 L15 D15 R15 60) fun r16 I16 L16 D16 R16 => zC4 w rc r14 r15 (I15 268 2) I16 L16 D16 R16
theorem zC_14 (rc : qcRc) (s : Int32) : fX2_choice_b14 w rc I L D R s = qc_bd (fX2_fit w I L D R s (I 268 2)) fun _ I L D R => qc_bd (fX2_expect w I L D R 59) fun _ I L D R => zC6 w rc I L D R := rfl
theorem eU_b143 (hW : qc_WF w) (hc : c = 270 ∨ c = 273 ∨ c = 276) (hs : eS c e n I R) (hn : n < 4900) {j5 j6 : Nat} (h5 : j5 ≤ n) (h6 : j6 < 4900) (rc : qcRc) (x3 x4 x7 s : Int32) : eU c e n 2 I L D R (fX2_choice_b143 w rc I L D R x3 x4 (nI j5) (nI j6) x7 s) := by
  unfold fX2_choice_b143
  refine eU_bd (k := 0) (k2 := 2) (eU_fit hs _ _) (fun r I D R n2 hs h1 h2 => ?_)
  refine eU_bd (k := 0) (k2 := 2) (eU_max hs _ _) (fun r I D R n2 hs h1 h2 => ?_)
  rw [hs.2.1, qc_WF_i hW hc, qc_gdt]
  refine eU_bd (k := 1) (k2 := 1) (eU_convert hW hc hs (by omega) _ _) (fun r I D R n2 hs h1 h2 => ?_)
  rw [hs.2.1, qc_WF_i hW hc, qc_gdt]
  refine eU_bd (k := 0) (k2 := 1) (eU_aim hW hc hs (by omega)) (fun r I D R n2 hs h1 h2 => ?_)
  rw [hs.2.1, qc_WF_i hW hc, qc_gdt]
  exact eU_bd (k := 1) (k2 := 0) (eU_convertAt hW hc hs (by omega) (by omega) _ _) (fun r I D R n2 hs h1 h2 => eU_some hs _)
theorem eU_zC3 (hW : qc_WF w) (hc : c = 270 ∨ c = 273 ∨ c = 276) (hs : eS c e n I R) (hn : n < 4900) {j5 j6 : Nat} (h5 : j5 ≤ n) (h6 : j6 < 4900) (rc : qcRc) (r15 x4 r24 : Int32) : eU c e n 2 I L D R (zC3 w rc r15 x4 (nI j5) (nI j6) r24 I L D R) := by
  unfold zC3
  have hs := eS_o hs hc (I 267 6 - 1)
  have : ∀ v, eU c e n 2 (qc_u I 267 6 (I 267 6 - 1)) L D R (fX2_choice_b125 w rc (qc_u I 267 6 (I 267 6 - 1)) L D R r15 x4 (nI j5) (nI j6) r24 v) := fun v => by
    unfold fX2_choice_b125 fX2_choice_b135
    split
    · split <;> exact eU_b143 hW hc hs hn h5 h6 _ _ _ _ _
    · split <;> exact eU_b143 hW hc hs hn h5 h6 _ _ _ _ _
  split
  · exact eU_o hc (this 1)
  · exact eU_o hc (this 0)
theorem eU_zC4 (hW : qc_WF w) (hc : c = 270 ∨ c = 273 ∨ c = 276) (hs : eS c e n I R) (hn : n < 4800) {j : Nat} (hj : j < 4900) (hnc : 5 ≤ nc) (r15 x4 : Int32) : eU c e n 3 I L D R (zC4 w (fX2_rc w nc) (nI j) r15 x4 I L D R) := by
  unfold zC4
  rw [hs.2.1, qc_WF_i hW hc, qc_gdt, qc_gdt, hs.2.2.2]
  obtain ⟨I1, e1, f1, s1⟩ := eU_addJump (w := w) (L := L) (D := D) hW hc hs (by omega) 1802
  rw [e1, qc_bds, s1.2.1, qc_WF_i hW hc, qc_gdt]
  have : eU c e (n + 1) 2 I1 L D R (qc_bd (fX0_aim w I1 L D R c (nI j)) fun r21 I21 L21 D21 R21 => qc_gd (qc_io w (R21 267 4) 0) <| qc_bd (fX0_otherWay w I21 L21 D21 R21 (R21 267 4)) fun r23 I23 L23 D23 R23 => qc_bd (fX2_rc w nc 0 0 I23 L23 D23 R23) fun r24 I24 L24 D24 R24 => zC3 w (fX2_rc w nc) r15 x4 (nI n) (nI n) r24 I24 L24 D24 R24) := by
    refine eU_bd (k := 0) (k2 := 2) (eU_aim hW hc s1 (by omega)) (fun r I D R n2 hs h1 h2 => ?_)
    rw [hs.2.1, qc_WF_i hW hc, qc_gdt]
    refine eU_bd (k := 0) (k2 := 2) (eU_otherWay hW hc hs) (fun r I D R n2 hs h1 h2 => ?_)
    exact eU_bd (k := 0) (k2 := 2) (eU_rc0 hs hnc) (fun r I D R n2 hs h1 h2 => eU_zC3 hW hc hs (by omega) (by omega) (by omega) _ _ _ _)
  obtain ⟨r, I2, D2, R2, n2, e2, f2, s2, h3, h4⟩ := this
  exact ⟨r, I2, D2, R2, n2, e2, fX_tr (fX_C f1 D R) f2, s2, by omega, by omega⟩
theorem eU_zC6 (hW : qc_WF w) (hc : c = 270 ∨ c = 273 ∨ c = 276) (hs : eS c e n I R) (hn : n < 4700) (hnc : 5 ≤ nc) : eU c e n 4 I L D R (zC6 w (fX2_rc w nc) I L D R) := by
  unfold zC6
  rw [hs.2.1, qc_WF_i hW hc, qc_gdt]
  obtain ⟨I1, e1, f1, s1⟩ := eU_addJump (w := w) (L := L) (D := D) hW hc hs (by omega) 1800
  rw [e1, qc_bds]
  have : eU c e (n + 1) 3 I1 L D R (qc_bd (fX2_rc w nc 0 0 I1 L D R) fun r15 I15 L15 D15 R15 => qc_bd (fX2_expect w I15 L15 D15 R15 60) fun r16 I16 L16 D16 R16 => zC4 w (fX2_rc w nc) (nI n) r15 (I15 268 2) I16 L16 D16 R16) := by
    refine eU_bd (k := 0) (k2 := 3) (eU_rc0 s1 hnc) (fun r I D R n2 hs h1 h2 => ?_)
    exact eU_bd (k := 0) (k2 := 3) (eU_expect hs (by decide) (by decide)) (fun r I D R n2 hs h1 h2 => eU_zC4 hW hc hs (by omega) (by omega) hnc _ _)
  obtain ⟨r, I2, D2, R2, n2, e2, f2, s2, h3, h4⟩ := this
  exact ⟨r, I2, D2, R2, n2, e2, fX_tr (fX_C f1 D R) f2, s2, by omega, by omega⟩
theorem beq0_eq {a e : Nat} : ((a = 0 ↔ e = 0) → (Nat.beq a 0 == Nat.beq e 0) = true) ∧ (¬ (a = 0 ↔ e = 0) → (Nat.beq a 0 == Nat.beq e 0) = false) := by
  cases a <;> cases e <;> refine ⟨fun h => ?_, fun h => ?_⟩ <;> first | rfl | omega
/-- tag 1 -/
theorem cA_choice (hW : qc_WF w) (hc : c = 270 ∨ c = 273 ∨ c = 276) (hb : qt_B b len) (hln : ∀ c, c < 10 → ln c ≤ 8) (hA : cA w b ln len c n) {d : qDen} (hB : cB b ln len c nc o st (l ++ qs_sh l.length d.2.2.2) (h + 1) (max pk (h + d.2.1)) I D R) (hd : qs_D st.2.length d) (h59 : qt_m b st.1 = 59) (hn : 14 * (13 - o) ≤ nc + 7) : cV b c L o l h pk (2500 + 8 * nc) (qs_p b ln (n + 1) 1 0 0 o d st) I D R (fX2_rc w nc 1 (nI d.1) I L D R) := by
  have ho := hB.2.2.2.1
  obtain ⟨nc, rfl⟩ : ∃ k, nc = k + 1 := ⟨nc - 1, by omega⟩
  have hn2 := hB.2.2.2.2.2.2.2.2
  have hbl := cB_l hB hb
  have hD0 := hB.2.1
  have hG0 := hB.2.2.1
  have hd4 := hd.1
  have hdn := hd.2.2.1
  have hll : l.length ≤ (l ++ qs_sh l.length d.2.2.2).length := by rw [List.length_append]; omega
  show cV b c L o l h pk _ (qs_choice b (qs_p b ln n) o d st) I D R (fX2_choice w (fX2_rc w nc) I L D R (nI d.1))
  unfold qs_choice fX2_choice
  have t14 : ∀ (v : Int32) e n' I1 D1 R1, eS c e n' I1 R1 → n' < 4700 → eU c e n' 4 I1 L D1 R1 (fX2_choice_b14 w (fX2_rc w nc) I1 L D1 R1 v) := fun v e n' I1 D1 R1 hs hn' => by
    rw [zC_14]
    refine eU_bd (k := 0) (k2 := 4) (eU_fit hs _ _) (fun r I D R n2 hs h1 h2 => ?_)
    exact eU_bd (k := 0) (k2 := 4) (eU_expect hs (by decide) (by decide)) (fun r I D R n2 hs h1 h2 => eU_zC6 hW hc hs (by omega) (by omega))
  refine cV_bU (K := 4) (cU_openOne hB.1 hc hD0 ho) (fun st0 I1 D1 R1 hr1 hf1 hD1 => ?_) (fun e I1 D1 R1 hs => ?_) hll (by omega)
  · obtain ⟨rfl, ho2⟩ := qs_op1_of hr1
    have hcl : (if nI d.1 = 0 then (fX2_choice_b14 w (fX2_rc w nc) I1 L D1 R1 (1 : Int32)) else (fX2_choice_b14 w (fX2_rc w nc) I1 L D1 R1 (0 : Int32))) = fX2_choice_b14 w (fX2_rc w nc) I1 L D1 R1 (if Nat.beq d.1 0 = true then 1 else 0) := by
      by_cases z : d.1 = 0
      · rw [if_pos ((kz hd4).mpr z), z]; rfl
      · rw [if_neg (fun y => z ((kz hd4).mp y)), if_neg (fun y => z (Nat.eq_of_beq_eq_true y))]
    rw [hcl, zC_14, cD_f hD1]
    have hT1 := cT_fX hc hB.1 hf1
    refine cV_fit (K := 4) hT1 hc hD1 rfl (fun hok => ?_) (fun e I1 D1 R1 hs => eU_bd (k := 0) (k2 := 4) (eU_expect hs (by decide) (by decide)) (fun r I D R n2 hs h1 h2 => eU_zC6 hW hc hs (by omega) (by omega))) hll (by omega)
    have hd0 : d.1 = 0 := Nat.eq_of_beq_eq_true hok
    rw [show qs_adv b st0 = qs_ex b 59 st0 from (if_pos h59).symm]
    refine cV_bU (K := 4) (cU_expect hb hT1 hc hD1 hG0 (by decide)) (fun st1 I2 D2 R2 hr2 hf2 hD2 => ?_) (fun e I1 D1 R1 hs => eU_zC6 hW hc hs (by omega) (by omega)) hll (by omega)
    rw [show qs_ex b 59 st0 = qs_adv b st0 from if_pos h59] at hr2
    obtain ⟨g1, g2, g3⟩ := qs_G_adv hb hG0 (by omega) hr2
    have hT2 := cT_fX hc hT1 hf2
    unfold zC6
    rw [hT2.2.1, qc_WF_i hW hc, qc_gdt]
    obtain ⟨I3, e3, k3, f3⟩ := kC_addJ (w := w) (L := L) (D := D2) hW hT2.2.2.1 hc hD2.2.2.2 (o := 1800) (h' := h) (by decide) (Or.inr ⟨by decide, rfl⟩) (by omega) (cB_p hB)
    have e3 : fX0_addJump w I2 L D2 R2 c 1800 = some (nI (l ++ qs_sh l.length d.2.2.2).length, I3, L, D2, R2) := e3
    rw [e3, qc_bds]
    have hx3 := fX_C (c := c) f3 D2 R2
    refine cV_fX hx3 ?_
    have hD3 := cD_k hD2 hc f3 k3
    have hlp : (l ++ qs_sh l.length d.2.2.2 ++ [(1800, 0)]).length = (l ++ qs_sh l.length d.2.2.2).length + 1 := by rw [List.length_append]; rfl
    have hb5 := hB.2.2.2.2.1
    have hb6 := hB.2.2.2.2.2.1
    have hb7 := hB.2.2.2.2.2.2.1
    have hB3 : cB b ln len c nc (o + 1) st1 (l ++ qs_sh l.length d.2.2.2 ++ [(1800, 0)]) h (max pk (h + d.2.1)) I3 D2 R2 := ⟨cT_fX hc hT2 hx3, hD3, g1, by omega, by omega, by omega, by omega, by omega, by omega⟩
    have hv := hA.sum nc (o + 1) st1 _ _ _ I3 L D2 R2 hB3 (by omega)
    refine cV_bV (K := 3) hv (fun q I4 D4 R4 hr4 hf4 hD4 => ?_) (fun e k n' I1 D1 R1 hs h1 h2 => eU_bd (k := 0) (k2 := 3) (eU_expect hs (by decide) (by decide)) (fun r I D R n2 hs h1 h2 => eU_zC4 hW hc hs (by omega) (by omega) (by omega) _ _)) (by omega) (by omega)
    have hq := ((qs_good hb hln n 0 0 0 (o + 1) _ st1 q hr4 g1).1 (by decide) (by decide) ⟨fun z => by omega, fun z => by omega⟩)
    have hB4 := cB_q hc hB3 hf4 hD4 hq (nc' := nc) (by omega)
    have hb4 := cB_l hB4 hb
    have hq4 := hq.2.1.1
    have hqn := hq.2.1.2.2.1
    have hlq : (l ++ qs_sh l.length d.2.2.2 ++ [(1800, 0)] ++ qs_sh (l ++ qs_sh l.length d.2.2.2 ++ [(1800, 0)]).length q.1.2.2.2).length = (l ++ qs_sh l.length d.2.2.2).length + 1 + q.1.2.2.2.length := by rw [List.length_append (bs := qs_sh _ _), qs_sh_len, hlp]
    rw [cD_f hD4]
    refine cV_bU (K := 3) (cU_expect hb hB4.1 hc hD4 hq.1 (by decide)) (fun st5 I5 D5 R5 hr5 hf5 hD5 => ?_) (fun e I1 D1 R1 hs => eU_zC4 hW hc hs (by omega) (by omega) (by omega) _ _) (by omega) (by omega)
    obtain ⟨x60, hr5'⟩ := qs_ex_of hr5
    obtain ⟨g7, g8, g9⟩ := qs_G_adv hb hq.1 (by omega) hr5'
    have hT5 := cT_fX hc hB4.1 hf5
    unfold zC4
    rw [hT5.2.1, qc_WF_i hW hc, qc_gdt, qc_gdt, hD5.2.2.2.2.1]
    obtain ⟨I6, e6, k6, f6⟩ := kC_addJ (w := w) (L := L) (D := D5) hW hT5.2.2.1 hc hD5.2.2.2 (o := 1802) (h' := h + 1) (by decide) (Or.inl ⟨rfl, rfl⟩) (by omega) (cB_p hB4)
    have e6 : fX0_addJump w I5 L D5 R5 c 1802 = some (nI (l ++ qs_sh l.length d.2.2.2 ++ [(1800, 0)] ++ qs_sh (l ++ qs_sh l.length d.2.2.2 ++ [(1800, 0)]).length q.1.2.2.2).length, I6, L, D5, R5) := e6
    rw [e6, qc_bds, hT5.2.1, qc_WF_i hW hc, qc_gdt]
    have k6' : kC c ((l ++ qs_sh l.length d.2.2.2) ++ (1800, 0) :: (qs_sh ((l ++ qs_sh l.length d.2.2.2).length + 1) q.1.2.2.2 ++ [(1802, 0)])) (h + 1) (max (max pk (h + d.2.1)) (h + q.1.2.1)) I6 := by
      rw [hlp] at k6
      simp only [List.append_assoc, List.cons_append, List.nil_append] at k6 ⊢
      exact k6
    obtain ⟨I7, e7, k7, f7, -⟩ := kC_aim (w := w) (L := L) (D := D5) hW hT5.2.2.1 hc k6'
    rw [e7, qc_bds, hT5.2.1, qc_WF_i hW hc, qc_gdt]
    obtain ⟨I8, e8, k8, f8⟩ := kC_otherWay (w := w) (L := L) (D := D5) (R := R5) hW hc k7
    rw [e8, qc_bds]
    have hlen6 : ((l ++ qs_sh l.length d.2.2.2) ++ (1800, 0) :: (qs_sh ((l ++ qs_sh l.length d.2.2.2).length + 1) q.1.2.2.2 ++ [(1802, 0)])).length = (l ++ qs_sh l.length d.2.2.2).length + 1 + q.1.2.2.2.length + 1 := by
      simp only [List.length_append, List.length_cons, List.length_nil, qs_sh_len]
      omega
    rw [hlen6] at k8
    have hA1 : ∃ A1 : List (Nat × Nat), A1 = (l ++ qs_sh l.length d.2.2.2) ++ (1800, (l ++ qs_sh l.length d.2.2.2).length + 1 + q.1.2.2.2.length + 1) :: qs_sh ((l ++ qs_sh l.length d.2.2.2).length + 1) q.1.2.2.2 := ⟨_, rfl⟩
    obtain ⟨A1, hA1⟩ := hA1
    have hA1l : A1.length = (l ++ qs_sh l.length d.2.2.2).length + 1 + q.1.2.2.2.length := by
      rw [hA1, List.length_append (as := l ++ qs_sh l.length d.2.2.2), List.length_cons, qs_sh_len]; omega
    have k8' : kC c (A1 ++ [(1802, 0)]) h (max (max pk (h + d.2.1)) (h + q.1.2.1)) I8 := by
      rw [hA1]
      simp only [List.append_assoc, List.cons_append, List.nil_append] at k8 ⊢
      exact k8
    have f678 := fC_tr f6 (fC_tr f7 f8)
    have hx8 := fX_C (c := c) f678 D5 R5
    refine cV_fX hx8 ?_
    have hD8 := cD_k hD5 hc f678 k8'
    have hlA : (A1 ++ [(1802, 0)]).length = A1.length + 1 := by rw [List.length_append]; rfl
    have hT8 := cT_fX hc hT5 hx8
    obtain ⟨c1, c2, c3, c4, c5, c6, c7, c8, c9⟩ := hB4
    rw [hlq] at c5
    have hB8 : cB b ln len c nc (o + 1) st5 (A1 ++ [(1802, 0)]) h (max (max pk (h + d.2.1)) (h + q.1.2.1)) I8 D5 R5 := ⟨hT8, hD8, g7, by omega, by omega, by omega, by omega, by omega, by omega⟩
    have hv := hA.sum nc (o + 1) st5 _ _ _ I8 L D5 R5 hB8 (by omega)
    rw [hlq, ← hA1l]
    refine cV_bV (K := 2) hv (fun r I9 D9 R9 hr9 hf9 hD9 => ?_) (fun e k n' I1 D1 R1 hs h1 h2 => eU_zC3 hW hc hs (by omega) (by omega) (by omega) _ _ _ _) (by omega) (by omega)
    have hqr := ((qs_good hb hln n 0 0 0 (o + 1) _ st5 r hr9 g7).1 (by decide) (by decide) ⟨fun z => by omega, fun z => by omega⟩)
    have hB9 := cB_q hc hB8 hf9 hD9 hqr (nc' := nc) (by omega)
    have hb9 := cB_l hB9 hb
    have hr4 := hqr.2.1.1
    have hrn := hqr.2.1.2.2.1
    have hDa := cD_u hD9 hc
    have hTa : cT b ln len c (qc_u I9 267 6 ((I9 267 6) - (1 : Int32))) R9 := cT_fX hc hB9.1 (fX_o c I9 D9 R9 _)
    have hcl2 : zC3 w (fX2_rc w nc) (nI q.1.1) (nI (qt_from b q.2.1)) (nI A1.length) (nI A1.length) (nI r.1.1) I9 L D9 R9 = fX2_choice_b143 w (fX2_rc w nc) (qc_u I9 267 6 ((I9 267 6) - (1 : Int32))) L D9 R9 (nI q.1.1) (nI (qt_from b q.2.1)) (nI A1.length) (nI A1.length) (nI r.1.1) (if (Nat.beq q.1.1 0 == Nat.beq r.1.1 0) = true then 1 else 0) := by
      unfold zC3 fX2_choice_b125 fX2_choice_b135
      by_cases z1 : q.1.1 = 0
      · rw [if_pos ((kz hq4).mpr z1)]
        by_cases z2 : r.1.1 = 0
        · rw [if_pos ((kz hr4).mpr z2), if_pos rfl, if_pos (beq0_eq.1 (by omega))]
        · rw [if_neg (fun y => z2 ((kz hr4).mp y)), if_neg (by decide), if_neg (by rw [beq0_eq.2 (by omega)]; decide)]
      · rw [if_neg (fun y => z1 ((kz hq4).mp y))]
        by_cases z2 : r.1.1 = 0
        · rw [if_pos ((kz hr4).mpr z2), if_neg (by decide), if_neg (by rw [beq0_eq.2 (by omega)]; decide)]
        · rw [if_neg (fun y => z2 ((kz hr4).mp y)), if_pos rfl, if_pos (beq0_eq.1 (by omega))]
    rw [hcl2]
    refine cV_o (v := I9 267 6 - 1) ?_
    unfold fX2_choice_b143
    have hlr : (A1 ++ [(1802, 0)] ++ qs_sh (A1 ++ [(1802, 0)]).length r.1.2.2.2).length = A1.length + 1 + r.1.2.2.2.length := by rw [List.length_append, qs_sh_len, hlA]
    refine cV_fit (K := 2) hTa hc hDa rfl (fun hok => ?_) (fun e I1 D1 R1 hs => ?_) (by omega) (by omega)
    · rw [cx_maxN (by omega) (by omega), qc_bds, hTa.2.1, qc_WF_i hW hc, qc_gdt]
      have hkk : kC c (A1 ++ (1802, 0) :: qs_sh (A1.length + 1) r.1.2.2.2) (h + 1) (max (max (max pk (h + d.2.1)) (h + q.1.2.1)) (h + r.1.2.1)) (qc_u I9 267 6 ((I9 267 6) - (1 : Int32))) := by
        have := hDa.2.2.2
        rw [hlA, List.append_assoc, List.singleton_append] at this
        exact this
      obtain ⟨Ia, Ib, Ic, ea, eb, ec, kc, fc⟩ := kX_ch (w := w) (L := L) (D := D9) (l := l) (d := d) (x := q.1) (y := r.1) (k := max q.1.1 r.1.1) hW hTa.2.2.1 hc hq4 hr4 (by omega) hD0.2.2.2.2.2.2.2.1 (jf_D hq.2.1) rfl hA1 hkk (by rw [List.length_append, List.length_cons, qs_sh_len]; omega) (by omega)
      rw [ea, qc_bds, hTa.2.1, qc_WF_i hW hc, qc_gdt, eb, qc_bds, hTa.2.1, qc_WF_i hW hc, qc_gdt, ec, qc_bds]
      refine cV_fX (fX_C fc D9 R9) (cV_some rfl ?_)
      have hpk : max pk (h + (d_ch (max q.1.1 r.1.1) d q.1 r.1).2.1) = max (max (max pk (h + d.2.1)) (h + q.1.2.1)) (h + r.1.2.1) := by show max pk (h + max d.2.1 (max q.1.2.1 r.1.2.1)) = _; omega
      rw [hpk]
      exact cD_k hDa hc fc kc
    · refine eU_bd (k := 0) (k2 := 2) (eU_max hs _ _) (fun r I D R n2 hs h1 h2 => ?_)
      rw [hs.2.1, qc_WF_i hW hc, qc_gdt]
      refine eU_bd (k := 1) (k2 := 1) (eU_convert hW hc hs (by omega) _ _) (fun r I D R n2 hs h1 h2 => ?_)
      rw [hs.2.1, qc_WF_i hW hc, qc_gdt]
      refine eU_bd (k := 0) (k2 := 1) (eU_aim hW hc hs (by omega)) (fun r I D R n2 hs h1 h2 => ?_)
      rw [hs.2.1, qc_WF_i hW hc, qc_gdt]
      exact eU_bd (k := 1) (k2 := 0) (eU_convertAt hW hc hs (by omega) (by omega) _ _) (fun r I D R n2 hs h1 h2 => eU_some hs _)
  · split
    · exact t14 _ _ _ _ _ _ hs (by omega)
    · exact t14 _ _ _ _ _ _ hs (by omega)
theorem cV_9 {o' h' pk' B : Nat} {l' : List (Nat × Nat)} {j : Nat} {out : qcO Int32} : cV b c L o' l' h' pk' B (.inl (9, j)) I D R out := fun h9 => absurd rfl (h9 j)
/-- all tags: the class's parser is the spec's -/
theorem cA_all (hW : qc_WF w) (hc : c = 270 ∨ c = 273 ∨ c = 276) (hb : qt_B b len) (hln : ∀ c, c < 10 → ln c ≤ 8) : ∀ n, cA w b ln len c n
  | 0 => ⟨fun _ _ _ _ _ _ _ _ _ _ _ _ => cV_9, fun _ _ _ _ _ _ _ _ _ _ _ _ _ _ _ => cV_9, fun _ _ _ _ _ _ _ _ _ _ _ _ => cV_9, fun _ _ _ _ _ _ _ _ _ _ _ _ => cV_9, fun _ _ _ _ _ _ _ _ _ _ _ _ _ => cV_9, fun _ _ _ _ _ _ _ _ _ _ _ _ => cV_9, fun _ _ _ _ _ _ _ _ _ _ _ _ _ _ _ => cV_9, fun _ _ _ _ _ _ _ _ _ _ _ _ _ _ _ _ _ _ _ _ _ _ _ _ => cV_9⟩
  | n + 1 => by
    have hA := cA_all hW hc hb hln n
    exact ⟨fun _ _ _ _ _ _ _ _ _ _ hB hn => cA_sum hc hb hln hA hB hn, fun _ _ _ _ _ _ _ _ _ _ _ hB h1 h9 hn => cA_joined hW hc hb hln hA hB h1 h9 hn, fun _ _ _ _ _ _ _ _ _ _ hB hn => cA_signed hW hc hb hln hA hB hn, fun _ _ _ _ _ _ _ _ _ _ hB hn => cA_part hW hc hb hln hA hB hn, fun _ _ _ _ _ _ _ _ _ _ hB h3 hn => cA_cell hW hc hb hln hA hB h3 hn, fun _ _ _ _ _ _ _ _ _ _ hB hn => cA_func hW hc hb hln hA hB hn, fun _ _ _ _ _ _ _ _ _ _ _ hB hd h59 hn => cA_choice hW hc hb hln hA hB hd h59 hn, fun _ _ _ _ _ _ _ _ _ _ _ _ _ _ _ hB hd a1 a2 a3 a4 a5 a6 hn => cA_loop hW hc hb hln hA hB hd a1 a2 a3 a4 a5 a6 hn⟩
end
