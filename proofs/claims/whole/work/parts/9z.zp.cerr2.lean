/-! and so to the end of the query -/
section
variable {w : qcW} {I : qTI} {L : qTL} {D : qTD} {R : qTR} {c B k : Nat} {e : Nat × Nat}
theorem eO_refuse (h : rE B e I R) (k a : Int32) : fX9_refuse w I L D R k a = some ((), I, L, D, R) := cx_refuse0 (rE_6 h) k a
theorem eO_misplaced (h : rE B e I R) : fX2_misplaced w I L D R = some ((), I, L, D, R) := by
  unfold fX2_misplaced
  rw [eO_refuse h, qc_bds]
theorem eO_m (h : rE B e I R) : R 268 1 = 4 := h.1.2.2.2.2
theorem eO_expect (h : rE B e I R) {m : Nat} (hm : m < 62) (h4 : m ≠ 4) : fX2_expect w I L D R m = some ((), I, L, D, R) := by
  unfold fX2_expect fX2_expect_b15
  rw [show qc_l62 m = true from Nat.ble_eq.mpr hm, eO_m h, qc_gdt, show qc_l62 4 = true from rfl, qc_gdt, if_neg (fun z => h4 z.symm), eO_misplaced h, qc_bds, cx_tk0 (rE_6 h), qc_bds]
theorem eO_fit (h : rE B e I R) (x1 x2 : Int32) : fX2_fit w I L D R x1 x2 = some ((), I, L, D, R) := by
  unfold fX2_fit
  split
  · rw [eO_refuse h, qc_bds]
  · rfl
theorem eO_rc0 (hc : c = 270 ∨ c = 273 ∨ c = 276) (h : eP c B e I R) : fX2_rc w 200 0 0 I L D R = some (0, I, L, D, R) := by
  obtain ⟨n, h1, h2⟩ := h.1.2.2 c hc
  exact (eR (⟨h.1.1, h.2, h.1.2.1, h2⟩ : eS c e n I R) 200).2.2.2.2 (by decide)
theorem eO_rc2 (hc : c = 270 ∨ c = 273 ∨ c = 276) (h : eP c B e I R) : fX2_rc w 200 2 0 I L D R = some (0, I, L, D, R) := by
  obtain ⟨n, h1, h2⟩ := h.1.2.2 c hc
  exact (eR (⟨h.1.1, h.2, h.1.2.1, h2⟩ : eS c e n I R) 200).2.2.2.1 (by decide) 0 (by decide)
theorem eO_cond (h : rE B e I R) : eO (rE B e) I L D R (fX2_readCondition w I L D R) := by
  unfold fX2_readCondition
  have h1 := eP_c h 270
  rw [eO_rc2 (by decide) h1, qc_bds, if_pos rfl]
  unfold fX2_readCondition_b24
  rw [eO_fit h1.1, qc_bds]
  exact eO_c (eO_some h1.1 _)
theorem eO_order (hW : qc_WF w) (hB : B < 2 ^ 20) (h : rE B e I R) : eO (rE (B + 1) e) I L D R (fX2_readOrder w I L D R) := by
  unfold fX2_readOrder
  have h1 := eP_c h 273
  rw [eO_rc0 (by decide) h1, qc_bds, if_pos rfl]
  unfold fX2_readOrder_b25
  rw [eO_fit h1.1, qc_bds, h1.2, qc_WF_i hW (by decide), qc_gdt]
  refine eO_c (eO_I 9 4 (eO_bd (eO_eU (k := 1) (c := 273) (by decide) (eP_I h1 9 4) (fun n hn hs => eU_convert hW (by decide) hs (by omega) _ _)) fun r I1 D1 R1 g => ?_))
  rw [eO_took g.1 (by decide) (by decide), qc_bds, if_neg (by decide)]
  exact eO_I 11 1 (eO_some (rE_I g.1 11 1) _)
theorem eO_155 (hW : qc_WF w) (hB : B < 2 ^ 20) (h : eP 273 B e I R) (x : Int32) : eO (rE (B + 1) e) I L D R (fX2_readHow_b155 w I L D R x) := by
  unfold fX2_readHow_b155
  rw [h.2, qc_WF_i hW (by decide), qc_gdt]
  exact eO_bd (eO_eU (k := 1) (c := 273) (by decide) h (fun n hn hs => eU_convert hW (by decide) hs (by omega) _ _)) fun r I1 D1 R1 g => eO_some g.1 _
theorem eO_66 (hW : qc_WF w) (hB : B < 2 ^ 20) (h : rE B e I R) (h8 : R 267 8 < 62) : eO (rE (B + 1) e) I L D R (fX2_readHow_b66 w I L D R) := by
  unfold fX2_readHow_b66
  have h1 := eP_c h 273
  rw [cx_tk0 (rE_6 h), qc_bds, eO_rc0 (by decide) h1, qc_bds, if_pos rfl]
  unfold fX2_readHow_b98
  rw [eO_fit h1.1, qc_bds]
  have h9 : qc_u R 267 4 273 267 8 = R 267 8 := qc_u_ne _ _ (Or.inr (by decide))
  rw [h9, show qc_l62 (R 267 8) = true from Nat.ble_eq.mpr h8, qc_gdt]
  refine eO_c (c := 273) ?_
  split
  · rw [if_neg (by decide)]
    unfold fX2_readHow_b134
    exact eO_I 9 0 (eO_I 9 2 (eO_155 hW hB (eP_I (eP_I h1 9 0) 9 2) _))
  · rw [qc_gdt]
    split
    · exact eO_I 9 0 (eO_I 9 4 (eO_155 hW hB (eP_I (eP_I h1 9 0) 9 4) _))
    · exact eO_I 9 0 (eO_155 hW hB (eP_I h1 9 0) _)
theorem eO_how (hW : qc_WF w) (hB : B < 2 ^ 20) (h : rE B e I R) : eO (rE (B + 1) e) I L D R (fX2_readHow w I L D R) := by
  unfold fX2_readHow
  have h1 := rE_R h (j := 8) (by decide) 4
  have h8 : qc_u R 267 8 4 267 8 = 4 := qc_u_at _ _ _ _
  rw [eO_m h, show qc_l62 4 = true from rfl, qc_gdt, eO_took h1 (by decide) (by decide), qc_bds, if_neg (by decide), h8, show qc_l62 4 = true from rfl, qc_gdt, if_neg (by decide), qc_gdt, if_neg (by decide), qc_gdt, if_neg (by decide), qc_gdt, if_neg (by decide), eO_misplaced h1, qc_bds]
  exact eO_r (j := 8) (by decide) (eO_66 hW hB h1 (by rw [h8]; decide))
theorem eO_128 (hW : qc_WF w) (hB : B < 2 ^ 20) (h : eP 273 B e I R) (x : Int32) : eO (rE (B + 1) e) I L D R (fX2_readSet_b128 w I L D R x) := by
  unfold fX2_readSet_b128
  rw [h.2, qc_WF_i hW (by decide), qc_gdt]
  exact eO_bd (eO_eU (k := 1) (c := 273) (by decide) h (fun n hn hs => eU_add hW (by decide) hs (by omega) _ _)) fun r I1 D1 R1 g => eO_some g.1 _
theorem eO_89 (hW : qc_WF w) (hB : B < 2 ^ 19) (h : eP 273 B e I R) (x1 x2 x3 s : Int32) : eO (rE (B + 3) e) I L D R (fX2_readSet_b89 w I L D R x1 x2 x3 s) := by
  unfold fX2_readSet_b89
  rw [eO_fit h.1, qc_bds, h.2, qc_WF_i hW (by decide), qc_gdt]
  refine eO_bd (eO_eU (k := 0) (c := 273) (by decide) h (fun n hn hs => eU_kd hs _)) fun r I1 D1 R1 g => ?_
  refine eO_bd (eO_eU (k := 1) (c := 273) (by decide) g (fun n hn hs => eU_convert hW (by decide) hs (by omega) _ _)) fun r I2 D2 R2 g => ?_
  split
  · exact eO_mono (eO_128 hW (by omega) g _) (fun _ _ h => rE_mono h (by omega))
  · split
    · exact eO_mono (eO_128 hW (by omega) g _) (fun _ _ h => rE_mono h (by omega))
    · rw [g.2, qc_WF_i hW (by decide), qc_gdt]
      refine eO_bd (eO_eU (k := 1) (c := 273) (by decide) g (fun n hn hs => eU_add hW (by decide) hs (by omega) _ _)) fun r I3 D3 R3 g => ?_
      exact eO_mono (eO_128 hW (by omega) g _) (fun _ _ h => rE_mono h (by omega))
theorem eO_72 (hW : qc_WF w) (hB : B < 2 ^ 19) (h : eP 273 B e I R) (x1 x2 x3 s : Int32) : eO (rE (B + 3) e) I L D R (fX2_readSet_b72 w I L D R x1 x2 x3 s) := by
  unfold fX2_readSet_b72
  split <;> (unfold fX2_readSet_b81; split <;> exact eO_89 hW hB h _ _ _ _)
/-- from the laying of the cell's place on -/
def zS (w : qcW) (r13 x2 : Int32) (I : qTI) (L : qTL) (D : qTD) (R : qTR) : qcO Unit := (qc_gd (qc_io w ((qc_u R 267 4 273) 267 4) 0) <| qc_bd (fX0_add w I L D (qc_u R 267 4 273) ((qc_u R 267 4 273) 267 4) (3 : Int32) (0 : Int32)) fun r17 I17 L17 D17 R17 => qc_bd (fX2_rc w 200 0 0 I17 L17 D17 R17) fun r18 I18 L18 D18 R18 => if r18 = 0 then (fX2_readSet_b72 w I18 L18 D18 R18 r13 x2 r18 (1 : Int32)) else (fX2_readSet_b72 w I18 L18 D18 R18 r13 x2 r18 (0 : Int32)))
theorem eO_zS (hW : qc_WF w) (hB : B < 2 ^ 18) (h : rE B e I R) (x1 x2 : Int32) : eO (rE (B + 4) e) I L D R (zS w x1 x2 I L D R) := by
  unfold zS
  have h1 := eP_c h 273
  rw [h1.2, qc_WF_i hW (by decide), qc_gdt]
  refine eO_c (eO_bd (eO_eU (k := 1) (c := 273) (by decide) h1 (fun n hn hs => eU_add hW (by decide) hs (by omega) _ _)) fun r I3 D3 R3 g => ?_)
  rw [eO_rc0 (by decide) g, qc_bds, if_pos rfl]
  exact eO_mono (eO_72 hW (by omega) g _ _ _ _) (fun _ _ h => rE_mono h (by omega))
theorem fX2_set_zS : fX2_readSet w I L D R = (qc_bd (fX2_metColumn w (qc_u I 267 10 (I 268 4)) L D R) fun r13 I13 L13 D13 R13 => qc_bd (fX2_expect w I13 L13 D13 R13 3) fun r14 I14 L14 D14 R14 => qc_bd (fX2_expect w I14 L14 D14 R14 61) fun r15 I15 L15 D15 R15 => zS w r13 (I14 268 2) I15 L15 D15 R15) := rfl
theorem eO_met (h : rE B e I R) : fX2_metColumn w I L D R = some (0, I, L, D, R) := by
  unfold fX2_metColumn
  rw [eO_m h, show qc_l62 4 = true from rfl, qc_gdt, if_neg (by decide), eO_misplaced h, qc_bds]
theorem eO_set (hW : qc_WF w) (hB : B < 2 ^ 18) (h : rE B e I R) : eO (rE (B + 4) e) I L D R (fX2_readSet w I L D R) := by
  rw [fX2_set_zS]
  have h1 := rE_I h 10 (I 268 4)
  rw [eO_met h1, qc_bds, eO_expect h1 (by decide) (by decide), qc_bds, eO_expect h1 (by decide) (by decide), qc_bds]
  exact eO_I 10 (I 268 4) (eO_zS hW hB h1 _ _)
theorem eO_long (hW : qc_WF w) (hc : c = 270 ∨ c = 273 ∨ c = 276) : ∃ r, fX0_isTooLong w I L D R c = some (r, I, L, D, R) := by
  unfold fX0_isTooLong
  rw [qc_WF_i hW hc, qc_gdt]
  split
  · exact ⟨_, rfl⟩
  · split <;> exact ⟨_, rfl⟩
theorem eO_231 (h : rE B e I R) : fX2_read_b231 w I L D R = some ((), I, L, D, R) := by
  unfold fX2_read_b231 fX2_read_b250
  rw [eO_refuse h, qc_bds]
theorem eO_195 (hW : qc_WF w) (h : rE B e I R) : fX2_read_b195 w I L D R = some ((), I, L, D, R) := by
  unfold fX2_read_b195
  obtain ⟨r1, e1⟩ := eO_long (I := I) (L := L) (D := D) (R := R) hW (c := 270) (by decide)
  obtain ⟨r2, e2⟩ := eO_long (I := I) (L := L) (D := D) (R := R) hW (c := 273) (by decide)
  obtain ⟨r3, e3⟩ := eO_long (I := I) (L := L) (D := D) (R := R) hW (c := 276) (by decide)
  rw [e1, qc_bds]
  split
  · exact eO_231 h
  · rw [e2, qc_bds]
    split
    · exact eO_231 h
    · rw [e3, qc_bds]
      split
      · exact eO_231 h
      · rfl
theorem eO_178 (hW : qc_WF w) (h : rE B e I R) : fX2_read_b178 w I L D R = some ((), I, L, D, R) := by
  unfold fX2_read_b178
  rw [eO_m h, show qc_l62 4 = true from rfl, qc_gdt, if_neg (by decide), eO_misplaced h, qc_bds]
  exact eO_195 hW h
theorem eO_43 (hW : qc_WF w) (h : rE B e I R) : fX2_read_b43 w I L D R = some ((), I, L, D, R) := by
  unfold fX2_read_b43
  rw [eO_took h (by decide) (by decide), qc_bds, if_neg (by decide)]
  exact eO_178 hW h
theorem eO_102 (hW : qc_WF w) (h : rE B e I R) : fX2_read_b102 w I L D R = some ((), I, L, D, R) := by
  unfold fX2_read_b102
  rw [eO_took h (by decide) (by decide), qc_bds, if_neg (by decide)]
  exact eO_178 hW h
end
