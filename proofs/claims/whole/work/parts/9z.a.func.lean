/-! the class reads as the spec does: functions, what is joined -/
section
variable {w : qcW} {b ln : Nat → Nat} {len : Nat} {I I1 : qTI} {L : qTL} {D D1 : qTD} {R R1 : qTR} {c nc o h pk n : Nat} {l : List (Nat × Nat)} {st st1 : qP} {q : qDen × qP} {e : Nat × Nat}
theorem eU_max (hs : eS c e n I R) (x y : Int32) : eU c e n 0 I L D R (fJ9_max_7cf53 w I L D R x y) := by rw [cx_max]; exact eU_some hs _
theorem eU_b64 (hW : qc_WF w) (hc : c = 270 ∨ c = 273 ∨ c = 276) (hs : eS c e n I R) (hn : n < 5000) {m : Nat} (hm : m < 62) (x : Int32) : eU c e n 1 I L D R (fX2_applied_b64 w I L D R m x) := by
  unfold fX2_applied_b64
  rw [show qc_l62 m = true from Nat.ble_eq.mpr hm, qc_gdt, hs.2.1, qc_WF_i hW hc, qc_gdt, qc_gdt]
  split
  · split
    · exact eU_mono (eU_some hs _) (by decide)
    · exact eU_bd (k := 1) (k2 := 0) (eU_add hW hc hs (by omega) _ _) (fun r I D R n2 hs h1 h2 => eU_some hs _)
  · exact eU_bd (k := 1) (k2 := 0) (eU_add hW hc hs (by omega) _ _) (fun r I D R n2 hs h1 h2 => eU_some hs _)
theorem eU_b34 (hW : qc_WF w) (hc : c = 270 ∨ c = 273 ∨ c = 276) (hs : eS c e n I R) (hn : n < 4900) {m j : Nat} (hm : m < 62) (hj : j ≤ n) (x2 x4 x : Int32) : eU c e n 3 I L D R (fX2_applied_b34 w I L D R m x2 (nI j) x4 x) := by
  unfold fX2_applied_b34
  rw [show qc_l62 m = true from Nat.ble_eq.mpr hm, qc_gdt, hs.2.1, qc_WF_i hW hc, qc_gdt]
  refine eU_bd (k := 1) (k2 := 2) (eU_convert hW hc hs (by omega) _ _) (fun r I D R n2 hs h1 h2 => ?_)
  split
  · rw [hs.2.1, qc_WF_i hW hc, qc_gdt]
    exact eU_bd (k := 1) (k2 := 1) (eU_convertAt hW hc hs (by omega) (by omega) _ _) (fun r I D R n2 hs h1 h2 => eU_b64 hW hc hs (by omega) hm _)
  · exact eU_mono (eU_b64 hW hc hs (by omega) hm _) (by decide)
theorem eU_applied (hW : qc_WF w) (hc : c = 270 ∨ c = 273 ∨ c = 276) (hs : eS c e n I R) (hn : n < 4900) {m j : Nat} (hm : m < 62) (hj : j ≤ n) (x2 x4 : Int32) : eU c e n 3 I L D R (fX2_applied w I L D R m x2 (nI j) x4) := by
  unfold fX2_applied fX2_applied_b28
  rw [show qc_l62 m = true from Nat.ble_eq.mpr hm, qc_gdt]
  refine eU_bd (k := 0) (k2 := 3) (eU_max hs _ _) (fun r I D R n2 hs h1 h2 => ?_)
  rw [qc_gdt]
  split
  · exact eU_b34 hW hc hs (by omega) hm (by omega) _ _ _
  · split
    · split
      · exact eU_b34 hW hc hs (by omega) hm (by omega) _ _ _
      · exact eU_b34 hW hc hs (by omega) hm (by omega) _ _ _
    · exact eU_b34 hW hc hs (by omega) hm (by omega) _ _ _
theorem eU_b130 (hW : qc_WF w) (hc : c = 270 ∨ c = 273 ∨ c = 276) (hs : eS c e n I R) (hn : n < 4900) {m j : Nat} (hm : m < 62) (hj : j ≤ n) (rc : qcRc) (x2 x3 x5 s : Int32) : eU c e n 3 I L D R (fX2_function_b130 w rc I L D R m x2 x3 (nI j) x5 s) := by
  unfold fX2_function_b130
  rw [show qc_l62 m = true from Nat.ble_eq.mpr hm, qc_gdt]
  refine eU_bd (k := 0) (k2 := 3) (eU_fit hs _ _) (fun r I D R n2 hs h1 h2 => ?_)
  exact eU_bd (k := 3) (k2 := 0) (eU_applied hW hc hs (by omega) hm (by omega) _ _) (fun r I D R n2 hs h1 h2 => eU_some hs _)
/-- behind the closing bracket -/
def zF (w : qcW) (rc : qcRc) (m : Nat) (x2 x3 x4 x5 : Int32) (I : qTI) (L : qTL) (D : qTD) (R : qTR) : qcO Int32 := if x3 = 0 then (fX2_function_b129 w rc (qc_u I 267 6 ((I 267 6) - (1 : Int32))) L D R m x2 x3 x4 x5) else (if x5 = 0 then (fX2_function_b129 w rc (qc_u I 267 6 ((I 267 6) - (1 : Int32))) L D R m x2 x3 x4 x5) else (fX2_function_b130 w rc (qc_u I 267 6 ((I 267 6) - (1 : Int32))) L D R m x2 x3 x4 x5 (1 : Int32)))
theorem zF_98 {m : Nat} (hm : m < 62) (rc : qcRc) (x2 x3 x4 x5 : Int32) : fX2_function_b98 w rc I L D R m x2 x3 x4 x5 = qc_bd (fX2_expect w I L D R 55) fun _ I L D R => zF w rc m x2 x3 x4 x5 I L D R := by
  unfold fX2_function_b98
  rw [show qc_l62 m = true from Nat.ble_eq.mpr hm, qc_gdt]
  rfl
theorem eU_zF (hW : qc_WF w) (hc : c = 270 ∨ c = 273 ∨ c = 276) (hs : eS c e n I R) (hn : n < 4900) {m j : Nat} (hm : m < 62) (hj : j ≤ n) (rc : qcRc) (x2 x3 x5 : Int32) : eU c e n 3 I L D R (zF w rc m x2 x3 (nI j) x5 I L D R) := by
  unfold zF fX2_function_b129
  rw [show qc_l62 m = true from Nat.ble_eq.mpr hm, qc_gdt]
  refine eU_o hc (v := I 267 6 - 1) ?_
  have hs := eS_o hs hc (I 267 6 - 1)
  split
  · exact eU_b130 hW hc hs hn hm hj _ _ _ _ _
  · split <;> exact eU_b130 hW hc hs hn hm hj _ _ _ _ _
theorem eU_b98 (hW : qc_WF w) (hc : c = 270 ∨ c = 273 ∨ c = 276) (hs : eS c e n I R) (hn : n < 4900) {m j : Nat} (hm : m < 62) (hj : j ≤ n) (rc : qcRc) (x2 x3 x5 : Int32) : eU c e n 3 I L D R (fX2_function_b98 w rc I L D R m x2 x3 (nI j) x5) := by
  rw [zF_98 hm]
  exact eU_bd (k := 0) (k2 := 3) (eU_expect hs (by decide) (by decide)) (fun r I D R n2 hs h1 h2 => eU_zF hW hc hs (by omega) hm (by omega) _ _ _ _)
/-- behind the first sum -/
def zG (w : qcW) (rc : qcRc) (m : Nat) (x2 r : Int32) (I : qTI) (L : qTL) (D : qTD) (R : qTR) : qcO Int32 := qc_gd (qc_io w (R 267 4) 0) <| if (qc_mfV 2 m) = (2 : Int32) then (qc_bd (fX2_expect w I L D R 58) fun r14 I14 L14 D14 R14 => qc_bd (rc 0 0 I14 L14 D14 R14) fun r15 I15 L15 D15 R15 => fX2_function_b98 w rc I15 L15 D15 R15 m x2 r (I (R 267 4) 2) r15) else (fX2_function_b98 w rc I L D R m x2 r (I (R 267 4) 2) r)
theorem zG_53 {m : Nat} (hm : m < 62) (rc : qcRc) (x2 : Int32) : fX2_function_b53 w rc I L D R m x2 = qc_bd (fX2_expect w I L D R 54) fun _ I L D R => qc_bd (rc 0 0 I L D R) fun r I L D R => zG w rc m x2 r I L D R := by
  unfold fX2_function_b53
  rw [show qc_l62 m = true from Nat.ble_eq.mpr hm, qc_gdt]
  rfl
theorem eU_zG (hW : qc_WF w) (hc : c = 270 ∨ c = 273 ∨ c = 276) (hs : eS c e n I R) (hn : n < 4900) {m : Nat} (hm : m < 62) (hnc : 5 ≤ nc) (x2 r : Int32) : eU c e n 3 I L D R (zG w (fX2_rc w nc) m x2 r I L D R) := by
  unfold zG
  rw [hs.2.1, qc_WF_i hW hc, qc_gdt, hs.2.2.2]
  split
  · refine eU_bd (k := 0) (k2 := 3) (eU_expect hs (by decide) (by decide)) (fun r I D R n2 hs h1 h2 => ?_)
    exact eU_bd (k := 0) (k2 := 3) (eU_rc0 hs hnc) (fun r I D R n3 hs h1 h2 => eU_b98 hW hc hs (by omega) hm (by omega) _ _ _ _)
  · exact eU_b98 hW hc hs hn hm (Nat.le_refl _) _ _ _ _
theorem eU_b53 (hW : qc_WF w) (hc : c = 270 ∨ c = 273 ∨ c = 276) (hs : eS c e n I R) (hn : n < 4900) {m : Nat} (hm : m < 62) (hnc : 5 ≤ nc) (x2 : Int32) : eU c e n 3 I L D R (fX2_function_b53 w (fX2_rc w nc) I L D R m x2) := by
  rw [zG_53 hm]
  refine eU_bd (k := 0) (k2 := 3) (eU_expect hs (by decide) (by decide)) (fun r I D R n2 hs h1 h2 => ?_)
  exact eU_bd (k := 0) (k2 := 3) (eU_rc0 hs hnc) (fun r I D R n3 hs h1 h2 => eU_zG hW hc hs (by omega) hm hnc _ _)
/-- tag 7 -/
theorem cA_func (hW : qc_WF w) (hc : c = 270 ∨ c = 273 ∨ c = 276) (hb : qt_B b len) (hln : ∀ c, c < 10 → ln c ≤ 8) (hA : cA w b ln len c n) (hB : cB b ln len c nc o st l h pk I D R) (hn : 14 * (13 - o) ≤ nc + 7) : cV b c L o l h pk (2500 + 8 * nc) (qs_p b ln (n + 1) 7 0 0 o (d_lf 0 []) st) I D R (fX2_rc w nc 7 0 I L D R) := by
  have ho := hB.2.2.2.1
  obtain ⟨nc, rfl⟩ : ∃ k, nc = k + 1 := ⟨nc - 1, by omega⟩
  have hn2 := hB.2.2.2.2.2.2.2.2
  have hbl := cB_l hB hb
  have hD0 := hB.2.1
  have hm62 : qt_m b st.1 < 62 := by have := qt_m_lt b st.1; have := hB.2.2.1.2.1; omega
  show cV b c L o l h pk _ (qs_func b (qs_p b ln n) o st) I D R (fX2_function w (fX2_rc w nc) I L D R)
  unfold qs_func fX2_function
  rw [cD_l hB.2.1 hB.2.2.1, qc_gdt, cD_mk hB.2.1]
  obtain ⟨hz, hz2⟩ := qc_mf_n2 _ hm62
  by_cases hm : 22 ≤ qt_m b st.1 ∧ qt_m b st.1 ≤ 35
  · rw [if_pos hm, if_neg (fun y => hz.mp y hm)]
    refine cV_bU (K := 3) (cU_take hb hB.1 hc hD0 hB.2.2.1) (fun st1 I1 D1 R1 hr1 hf1 hD1 => ?_) (fun e I1 D1 R1 hs => ?_) (Nat.le_refl _) (by omega)
    · obtain ⟨g1, g2, g3⟩ := qs_G_adv hb hB.2.2.1 (by omega) hr1
      have hB1 := cB_s (nc' := nc) hc hB hf1 hD1 g1 (by omega) ho (by omega)
      rw [cD_l hD1 g1, qc_gdt, cD_mk hD1]
      by_cases h54 : qt_m b st1.1 = 54
      · rw [if_pos h54, if_pos h54, cD_f hD1]
        refine cV_bU (K := 3) (cU_openOne hB1.1 hc hD1 ho) (fun st2 I2 D2 R2 hr2 hf2 hD2 => ?_) (fun e I1 D1 R1 hs => eU_b53 hW hc hs (by omega) hm62 (by omega) _) (Nat.le_refl _) (by omega)
        obtain ⟨rfl, ho2⟩ := qs_op1_of hr2
        rw [zG_53 hm62, show qs_adv b st2 = qs_ex b 54 st2 from (if_pos h54).symm]
        refine cV_bU (K := 3) (cU_expect hb (cT_fX hc hB1.1 hf2) hc hD2 g1 (by decide)) (fun st3 I3 D3 R3 hr3 hf3 hD3 => ?_) (fun e I1 D1 R1 hs => eU_bd (k := 0) (k2 := 3) (eU_rc0 hs (by omega)) (fun r I D R n3 hs h1 h2 => eU_zG hW hc hs (by omega) hm62 (by omega) _ _)) (Nat.le_refl _) (by omega)
        rw [show qs_ex b 54 st2 = qs_adv b st2 from if_pos h54] at hr3
        obtain ⟨g4, g5, g6⟩ := qs_G_adv hb g1 (by omega) hr3
        have hB3 := cB_s (nc' := nc) hc hB1 (fX_tr hf2 hf3) hD3 g4 (by omega) (by omega) (by omega)
        have hv := hA.sum nc (o + 1) st3 l h pk I3 L D3 R3 hB3 (by omega)
        refine cV_bV (K := 3) hv (fun q I4 D4 R4 hr4 hf4 hD4 => ?_) (fun e k n' I1 D1 R1 hs h1 h2 => eU_zG hW hc hs (by omega) hm62 (by omega) _ _) (Nat.le_refl _) (by omega)
        have hq := ((qs_good hb hln n 0 0 0 (o + 1) _ st3 q hr4 g4).1 (by decide) (by decide) ⟨fun z => by omega, fun z => by omega⟩)
        have hB4 := cB_q hc hB3 hf4 hD4 hq (nc' := nc) (by omega)
        have hb4 := cB_l hB4 hb
        have hd4 := hq.2.1.1
        have hll : l.length ≤ (l ++ qs_sh l.length q.1.2.2.2).length := by rw [List.length_append]; omega
        unfold zG
        rw [hB4.1.2.1, qc_WF_i hW hc, qc_gdt, hD4.2.2.2.2.1]
        by_cases h27 : qt_m b st.1 = 27 ∨ qt_m b st.1 = 28
        · rw [if_pos h27, if_pos (hz2.mpr h27)]
          refine cV_bU (K := 3) (cU_expect hb hB4.1 hc hD4 hq.1 (by decide)) (fun st5 I5 D5 R5 hr5 hf5 hD5 => ?_) (fun e I1 D1 R1 hs => eU_bd (k := 0) (k2 := 3) (eU_rc0 hs (by omega)) (fun r I D R n3 hs h1 h2 => eU_b98 hW hc hs (by omega) hm62 (by omega) _ _ _ _)) hll (by omega)
          obtain ⟨x58, hr5'⟩ := qs_ex_of hr5
          obtain ⟨g7, g8, g9⟩ := qs_G_adv hb hq.1 (by omega) hr5'
          have hB5 := cB_s (nc' := nc) hc hB4 hf5 hD5 g7 (by omega) (by omega) (by omega)
          have hv := hA.sum nc (o + 1) st5 _ _ _ I5 L D5 R5 hB5 (by omega)
          refine cV_bV (K := 3) hv (fun r I6 D6 R6 hr6 hf6 hD6 => ?_) (fun e k n' I1 D1 R1 hs h1 h2 => eU_b98 hW hc hs (by omega) hm62 h1 _ _ _ _) hll (by omega)
          have hqr := ((qs_good hb hln n 0 0 0 (o + 1) _ st5 r hr6 g7).1 (by decide) (by decide) ⟨fun z => by omega, fun z => by omega⟩)
          have hB6 := cB_q hc hB5 hf6 hD6 hqr (nc' := nc) (by omega)
          have hb6 := cB_l hB6 hb
          have he4 := hqr.2.1.1
          have hll2 : l.length ≤ ((l ++ qs_sh l.length q.1.2.2.2) ++ qs_sh (l ++ qs_sh l.length q.1.2.2.2).length r.1.2.2.2).length := by rw [List.length_append]; omega
          have hll3 : (l ++ qs_sh l.length q.1.2.2.2).length ≤ ((l ++ qs_sh l.length q.1.2.2.2) ++ qs_sh (l ++ qs_sh l.length q.1.2.2.2).length r.1.2.2.2).length := by rw [List.length_append (as := l ++ qs_sh l.length q.1.2.2.2)]; omega
          rw [zF_98 hm62]
          refine cV_bU (K := 3) (cU_expect hb hB6.1 hc hD6 hqr.1 (by decide)) (fun st7 I7 D7 R7 hr7 hf7 hD7 => ?_) (fun e I1 D1 R1 hs => eU_zF hW hc hs (by omega) hm62 hll3 _ _ _ _) hll2 (by omega)
          have hD8 := cD_u hD7 hc
          have hT8 : cT b ln len c (qc_u I7 267 6 ((I7 267 6) - (1 : Int32))) R7 := cT_fX hc (cT_fX hc hB6.1 hf7) (fX_o c I7 D7 R7 _)
          have hfin : ∀ v : Int32, v = (if (!(Nat.beq q.1.1 0) && !(Nat.beq r.1.1 0)) = true then 1 else 0) → cV b c L o l h pk (2500 + 8 * (nc + 1)) (qs_fit (!(Nat.beq q.1.1 0) && !(Nat.beq r.1.1 0)) (qt_from b st2.1) (.inr (qs_fn2 (qt_m b st.1) q.1 r.1, st7))) (qc_u I7 267 6 ((I7 267 6) - (1 : Int32))) D7 R7 (fX2_function_b130 w (fX2_rc w nc) (qc_u I7 267 6 ((I7 267 6) - (1 : Int32))) L D7 R7 (qt_m b st.1) (nI (qt_from b st2.1)) (nI q.1.1) (nI (l ++ qs_sh l.length q.1.2.2.2).length) (nI r.1.1) v) := fun v hv => by
            unfold fX2_function_b130
            rw [show qc_l62 (qt_m b st.1) = true from Nat.ble_eq.mpr hm62, qc_gdt]
            refine cV_fit (K := 3) (x := v) hT8 hc hD8 hv (fun hok => ?_) (fun e I1 D1 R1 hs => eU_bd (k := 3) (k2 := 0) (eU_applied hW hc hs (by omega) hm62 hll3 _ _) (fun r I D R n2 hs h1 h2 => eU_some hs _)) hll2 (by omega)
            have hne : q.1.1 ≠ 0 := fun y => by rw [y] at hok; cases hok
            have hnr := hqr.2.1.2.2.1
            obtain ⟨I9, e9, k9, f9⟩ := kX_ap2 (w := w) (L := L) (D := D7) (l := l) (x := q.1) (y := r.1) hW hT8.2.2.1 hc hT8.2.1 h27 (by omega) hd4 he4 hD4.2.2.2.2.2.2.2.1 (jf_D hqr.2.1) rfl hD8.2.2.2 (by omega) (by omega)
            rw [e9, qc_bds]
            refine cV_fX (fX_C f9 D7 R7) (cV_some rfl ?_)
            have hpk : max pk (h + (qs_fn2 (qt_m b st.1) q.1 r.1).2.1) = max (max pk (h + q.1.2.1)) (h + 1 + r.1.2.1) := by show max pk (h + max q.1.2.1 (1 + r.1.2.1)) = _; omega
            rw [hpk]
            exact cD_k hD8 hc f9 k9
          refine cV_o (v := I7 267 6 - 1) ?_
          unfold zF fX2_function_b129
          rw [show qc_l62 (qt_m b st.1) = true from Nat.ble_eq.mpr hm62, qc_gdt]
          by_cases z1 : q.1.1 = 0
          · rw [if_pos ((kz hd4).mpr z1)]
            exact hfin 0 (by rw [z1]; rfl)
          rw [if_neg (fun y => z1 ((kz hd4).mp y))]
          have b1 : Nat.beq q.1.1 0 = false := Bool.eq_false_iff.mpr (fun y => z1 (Nat.eq_of_beq_eq_true y))
          by_cases z2 : r.1.1 = 0
          · rw [if_pos ((kz he4).mpr z2)]
            exact hfin 0 (by rw [z2, b1]; rfl)
          rw [if_neg (fun y => z2 ((kz he4).mp y))]
          have b2 : Nat.beq r.1.1 0 = false := Bool.eq_false_iff.mpr (fun y => z2 (Nat.eq_of_beq_eq_true y))
          exact hfin 1 (by rw [b1, b2]; rfl)
        · rw [if_neg h27, if_neg (fun y => h27 (hz2.mp y)), zF_98 hm62]
          refine cV_bU (K := 3) (cU_expect hb hB4.1 hc hD4 hq.1 (by decide)) (fun st7 I7 D7 R7 hr7 hf7 hD7 => ?_) (fun e I1 D1 R1 hs => eU_zF hW hc hs (by omega) hm62 (Nat.le_refl _) _ _ _ _) hll (by omega)
          have hD8 := cD_u hD7 hc
          have hT8 : cT b ln len c (qc_u I7 267 6 ((I7 267 6) - (1 : Int32))) R7 := cT_fX hc (cT_fX hc hB4.1 hf7) (fX_o c I7 D7 R7 _)
          have hfin : ∀ v : Int32, v = (if (!(Nat.beq q.1.1 0)) = true then 1 else 0) → cV b c L o l h pk (2500 + 8 * (nc + 1)) (qs_fit (!(Nat.beq q.1.1 0)) (qt_from b st2.1) (.inr (qs_fn (qt_m b st.1) q.1, st7))) (qc_u I7 267 6 ((I7 267 6) - (1 : Int32))) D7 R7 (fX2_function_b130 w (fX2_rc w nc) (qc_u I7 267 6 ((I7 267 6) - (1 : Int32))) L D7 R7 (qt_m b st.1) (nI (qt_from b st2.1)) (nI q.1.1) (nI (l ++ qs_sh l.length q.1.2.2.2).length) (nI q.1.1) v) := fun v hv => by
            unfold fX2_function_b130
            rw [show qc_l62 (qt_m b st.1) = true from Nat.ble_eq.mpr hm62, qc_gdt]
            refine cV_fit (K := 3) (x := v) hT8 hc hD8 hv (fun hok => ?_) (fun e I1 D1 R1 hs => eU_bd (k := 3) (k2 := 0) (eU_applied hW hc hs (by omega) hm62 (Nat.le_refl _) _ _) (fun r I D R n2 hs h1 h2 => eU_some hs _)) hll (by omega)
            have hne : q.1.1 ≠ 0 := fun y => by rw [y] at hok; cases hok
            obtain ⟨I9, e9, k9, f9⟩ := kX_ap1 (w := w) (L := L) (D := D7) (l := l) (x := q.1) hW hT8.2.2.1 hc hT8.2.1 hm h27 (by omega) hd4 hD8.2.2.2 (by omega) (cB_p hB4) (nI (l ++ qs_sh l.length q.1.2.2.2).length)
            rw [e9, qc_bds]
            refine cV_fX (fX_C f9 D7 R7) (cV_some rfl ?_)
            have hpk : (qs_fn (qt_m b st.1) q.1).2.1 = q.1.2.1 := by
              unfold qs_fn
              repeat' split
              all_goals rfl
            rw [hpk]
            exact cD_k hD8 hc f9 k9
          refine cV_o (v := I7 267 6 - 1) ?_
          unfold zF fX2_function_b129
          rw [show qc_l62 (qt_m b st.1) = true from Nat.ble_eq.mpr hm62, qc_gdt]
          by_cases z1 : q.1.1 = 0
          · rw [if_pos ((kz hd4).mpr z1)]
            exact hfin 0 (by rw [z1]; rfl)
          rw [if_neg (fun y => z1 ((kz hd4).mp y)), if_neg (fun y => z1 ((kz hd4).mp y))]
          have b1 : Nat.beq q.1.1 0 = false := Bool.eq_false_iff.mpr (fun y => z1 (Nat.eq_of_beq_eq_true y))
          exact hfin 1 (by rw [b1]; rfl)
      · rw [if_neg h54, if_neg h54, zG_53 hm62]
        have hu := cU_expect (w := w) (L := L) hb hB1.1 hc hD1 g1 (m := 54) (by decide)
        have hx : qs_ex b 54 st1 = .inl (2, qt_from b st1.1) := if_neg h54
        rw [hx] at hu
        obtain ⟨I2, D2, R2, e2, f2, -, s2⟩ := hu
        rw [e2, qc_bds]
        refine cV_fX f2 (cV_eU (K := 3) (eU_bd (k := 0) (k2 := 3) (eU_rc0 (s2 _ rfl) (by omega)) (fun r I D R n3 hs h1 h2 => eU_zG hW hc hs (by omega) hm62 (by omega) _ _)) (Nat.le_refl _) (by omega))
    · rw [eS_l hs, qc_gdt, eS_m hs, if_neg (by decide)]
      exact eU_b53 hW hc hs (by omega) hm62 (by omega) _
  · rw [if_neg hm, if_pos (hz.mpr hm)]
    unfold fX2_misplaced
    rw [cD_f hD0]
    obtain ⟨I', R', e1, e2, e3, -⟩ := cS_refuse (w := w) (L := L) hB.1 hD0 hc (k := 2) (j := qt_from b st.1) (by decide)
    have e1 : fX9_refuse w I L D R 2 (nI (qt_from b st.1)) = some ((), I', L, D, R') := e1
    rw [e1, qc_bds, qc_bds]
    exact cV_fX e2 (cV_eU (K := 0) (eU_some e3 _) (Nat.le_refl _) (by omega))
end
