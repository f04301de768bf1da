/-! cell, score, value -/
section
variable {w : qcW} {I : qTI} {L : qTL} {D : qTD} {R : qTR}
theorem fj_dbits {x : UInt64} (h : qf_N x) : fJxe99ae_doubleToLongBits_ccdee w I L D R x = some (x.toInt64, I, L, D, R) := by
  unfold fJxe99ae_doubleToLongBits_ccdee fJxe99ae_isNaN_b9ae7
  rw [if_pos ((qk_eq h h).mpr rfl)]
  rfl
theorem fj_fbits {x : UInt32} (h : qf_N32 x) : fJxf58ca_floatToIntBits_5c35a w I L D R x = some (x.toInt32, I, L, D, R) := by
  unfold fJxf58ca_floatToIntBits_5c35a fJxf58ca_isNaN_12338
  have e : FP.fcmp x x = some .eq := FP.Core.fcmp_self h
  rw [e, if_pos (by decide)]
  rfl
theorem pp_cell (h : Inv w (I, L, D, R)) (x y : Int32) : qv_pp w (fun I L D R => fX11_cell w I L D R x y) (fun I L D R => fX12_cell w I L D R x y) (I, L, D, R) := by
  cases hx : qc_inb x 10
  · exact qv_same h (-9223372036854775808) (by simp only [fX11_cell, fx_isColumn, hx, qc_bds, qf_ff]) (by simp only [fX12_cell, fm_isColumn, hx, qc_bds, qf_ff])
  · obtain ⟨c, hc, hxc, hc2⟩ := qi_k hx (by decide)
    subst hxc
    rcases qi_at h hc with ⟨a1, a2⟩ | ⟨i, j, a1, a2, hrw⟩
    · refine qv_same h (-9223372036854775808) ?_ (by simp only [fX12_cell, fm_isColumn, hx, qc_bds, if_true, qc_gdt, hc2, a2])
      simp only [fX11_cell, fx_isColumn, hx, qc_bds, if_true, fx_size0 hc a1]
      by_cases h1 : y < 0
      · rw [if_pos h1]
      · rw [if_neg h1, if_neg]
        intro q
        rw [Int32.lt_iff_toInt_lt] at h1 q
        rw [show (0 : Int32).toInt = 0 from rfl] at h1
        rw [show (-1 : Int32).toInt = -1 from rfl] at q
        omega
    · obtain ⟨a3, a4, a5, a6, a7, a8, a9⟩ := hrw
      obtain ⟨l, hl, hl2, -⟩ := qi_k a6 (by decide)
      obtain ⟨sz, hsz, hsz2, -⟩ := qi_k a8 (by decide)
      have hjm : ¬ nI j = (-1 : Int32) := qi_nI_m1 (by omega)
      have hszM : I 294 j = nI sz := a7.symm.trans hsz2
      have ein : fX12_in w I L D R (Int32.toInt64 y) 0 (Int32.toInt64 (nI sz - 1)) = some (qc_inb y sz, I, L, D, R) := fm_in sz (qi_m1 rfl (by omega))
      have hm0 : fX12_cell w I L D R (nI c) y = if qc_inb y sz = true then (qc_bd (fX12_bitsOf w I L D R (I 293 j) (((16 : Int32) * nI j) + y)) fun r12 I12 L12 D12 R12 => some (r12, I12, L12, D12, R12)) else some (-9223372036854775808, I, L, D, R) := by
        simp only [fX12_cell, fm_isColumn, hx, qc_bds, if_true, qc_gdt, hc2, a2, hjm, if_false, qi_inbN a4 (by decide), nI_clamp (show j < 2 ^ 31 by omega), hszM, ein]
      have hx0 : fX11_cell w I L D R (nI c) y = if qc_inb y sz = true then (qc_bd (fX1_bitsOf w I L D R (nI c) y) fun r6 I6 L6 D6 R6 => some (r6, I6, L6, D6, R6)) else some (-9223372036854775808, I, L, D, R) := by
        simp only [fX11_cell, fx_isColumn, hx, qc_bds, if_true, fx_size1 hc a3 a1, hsz2, Int32.lt_iff_toInt_lt, show (0 : Int32).toInt = 0 from rfl, nI_toInt (show sz < 2 ^ 31 by omega)]
        by_cases h1 : y.toInt < 0
        · rw [if_pos h1, qi_inbF (by omega), qf_ff]
        · rw [if_neg h1]
          by_cases h2 : y.toInt < sz
          · rw [if_pos h2, (qi_inb_iff y sz).mpr (by omega), if_pos rfl]
          · rw [if_neg h2, qi_inbF (by omega), qf_ff]
      cases hy : qc_inb y sz
      · rw [hy, qf_ff] at hm0 hx0
        exact qv_same h _ hx0 hm0
      · obtain ⟨t, ht, hyt, -⟩ := qi_k hy (by omega)
        subst hyt
        rw [hy, if_pos rfl] at hm0 hx0
        have e16 : nI i * 16 + nI t = nI (i * 16 + t) := by rw [show (16 : Int32) = nI 16 by decide, qi_mul, nI_add]
        have e16m : (16 : Int32) * nI j + nI t = nI (j * 16 + t) := by rw [show (16 : Int32) = nI 16 by decide, qi_mul, nI_add, Nat.mul_comm]
        have b1 : qc_inb (nI (i * 16 + t)) 160 = true := qi_inbN (by omega) (by decide)
        have b2 : qc_inb (nI (j * 16 + t)) 176 = true := qi_inbN (by omega) (by decide)
        obtain ⟨o1, o2, o3⟩ := a9 t (by omega)
        have hN : qf_N (D 262 (i * 16 + t)) := (qf_n64 _).mp o3.2.2.1
        have hl6 : I 293 j = I 259 i := a5.symm
        have o1' : L 261 (i * 16 + t) = L 295 (j * 16 + t) := o1
        have o2' : D 262 (i * 16 + t) = D 296 (j * 16 + t) := o2
        have hX1 : fX1_bitsOf w I L D R (nI c) (nI t) = if (6 : Int32) ≤ I 259 i then (if I 259 i = (6 : Int32) then (qc_bd (fX8_bitsOfFloat w I L D R (D 262 (i * 16 + t))) fun r8 I8 L8 D8 R8 => some (r8, I8, L8, D8, R8)) else (qc_bd (fX8_bitsOfDouble w I L D R (D 262 (i * 16 + t))) fun r6 I6 L6 D6 R6 => some (r6, I6, L6, D6, R6))) else some (L 261 (i * 16 + t), I, L, D, R) := by
          simp only [fX1_bitsOf, qi_inbN hc (by decide), qc_gdt, fx_lane1 hc a3 a1, qc_bds, nI_clamp (show c < 2 ^ 31 by omega), a1, e16, b1, nI_clamp (show i * 16 + t < 2 ^ 31 by omega)]
        have hM1 : fX12_bitsOf w I L D R (I 293 j) (((16 : Int32) * nI j) + nI t) = if I 259 i = (6 : Int32) then (qc_gd (qc_n32 (FP.d2f (D 262 (i * 16 + t)))) <| qc_bd (fJxf58ca_floatToIntBits_5c35a w I L D R (FP.d2f (D 262 (i * 16 + t)))) fun r8 I8 L8 D8 R8 => some ((Int32.toInt64 r8), I8, L8, D8, R8)) else (if I 259 i = (7 : Int32) then (qc_bd (fJxe99ae_doubleToLongBits_ccdee w I L D R (D 262 (i * 16 + t))) fun r5 I5 L5 D5 R5 => some (r5, I5, L5, D5, R5)) else some (L 261 (i * 16 + t), I, L, D, R)) := by
          simp only [fX12_bitsOf, hl6, e16m, b2, qc_gdt, nI_clamp (show j * 16 + t < 2 ^ 31 by omega), o1', o2']
        by_cases l6 : I 259 i = 6
        · obtain ⟨f, f1, f2⟩ := o3.2.2.2 l6
          have hf := (qf_n32 f).mp f1
          have f2' : D 262 (i * 16 + t) = FP.f2d f := f2
          refine qv_same h (Int32.toInt64 f.toInt32) ?_ ?_
          · show fX11_cell w I L D R (nI c) (nI t) = _
            rw [hx0, hX1, if_pos (by rw [l6]; exact Int32.le_refl _), if_pos l6, f2', fx_bitsOfFloat hf]
            rfl
          · show fX12_cell w I L D R (nI c) (nI t) = _
            rw [hm0, hM1, if_pos l6, f2', qf_d2f hf, f1, qc_gdt, fj_fbits hf]
            rfl
        · by_cases l7 : I 259 i = 7
          · refine qv_same h ((D 262 (i * 16 + t)).toInt64) ?_ ?_
            · show fX11_cell w I L D R (nI c) (nI t) = _
              rw [hx0, hX1, if_pos (by rw [l7]; decide), if_neg l6, fx_bitsOfDouble hN]
              rfl
            · show fX12_cell w I L D R (nI c) (nI t) = _
              rw [hm0, hM1, if_neg l6, if_pos l7, fj_dbits hN]
              rfl
          · have hlt : ¬ (6 : Int32) ≤ I 259 i := by
              rw [hl2]
              intro q
              have := (qi_le (a := 6) (by decide) (by omega)).mp q
              rcases (show l = 6 ∨ l = 7 by omega) with rfl | rfl
              · exact l6 hl2
              · exact l7 hl2
            refine qv_same h (L 261 (i * 16 + t)) ?_ ?_
            · show fX11_cell w I L D R (nI c) (nI t) = _
              rw [hx0, hX1, if_neg hlt]
              rfl
            · show fX12_cell w I L D R (nI c) (nI t) = _
              rw [hm0, hM1, if_neg l6, if_neg l7]
              rfl
/-- which number is a hit's -/
theorem qi_hits {hh : Nat} (hle : hh ≤ 16) (b7 : I 280 5 = nI hh) (b5 : I 280 5 = I 291 81) (x : Int32) : fX3_isHit w I L D R x = some (qc_inb x hh, I, L, D, R) ∧ fX12_in w I L D R (Int32.toInt64 x) 0 (Int32.toInt64 (I 291 81 - 1)) = some (qc_inb x hh, I, L, D, R) := by
  constructor
  · unfold fX3_isHit
    simp only [b7, Int32.lt_iff_toInt_lt, Int32.le_iff_toInt_le, show (0 : Int32).toInt = 0 from rfl, nI_toInt (show hh < 2 ^ 31 by omega)]
    by_cases h1 : x.toInt < 0
    · rw [if_pos h1, qi_inbF (by omega)]
    · rw [if_neg h1]
      by_cases h2 : x.toInt < hh
      · simp only [h2, if_true, show ¬ (hh : Int) ≤ x.toInt by omega, if_false]
        rw [(qi_inb_iff x hh).mpr (by omega)]
      · simp only [h2, if_false, show (hh : Int) ≤ x.toInt by omega, if_true]
        rw [qi_inbF (by omega)]
  · exact fm_in hh (qi_m1 (b5.symm.trans b7) (by omega))
theorem pp_score (h : Inv w (I, L, D, R)) (x : Int32) : qv_pp w (fun I L D R => fX11_score w I L D R x) (fun I L D R => fX12_score w I L D R x) (I, L, D, R) := by
  obtain ⟨b0, b1, b2, b3, b4, b5, b6, hh, b7, b8, b9, b10⟩ := h.2.2.2.2.2.2.2.2
  have b6' : I 280 6 = I 291 82 := b6
  obtain ⟨e1, e2⟩ := qi_hits (w := w) (L := L) (D := D) (R := R) b8 b7 b5 x
  cases hb : qc_inb x hh
  · exact qv_same h (-9223372036854775808) (by simp only [fX11_score, e1, hb, qc_bds, qf_ff]) (by simp only [fX12_score, e2, hb, qc_bds, qf_ff])
  · obtain ⟨k, hk, -, hk2⟩ := qi_k hb (by omega)
    have hb16 : qc_inb x 16 = true := (qi_inb_iff x 16).mpr (by have := (qi_inb_iff x hh).mp hb; omega)
    rcases b10 with ⟨c1, c2⟩ | ⟨c1, c2, c3, -⟩
    · have c1' : I 280 6 = 0 := c1
      obtain ⟨s1, s2⟩ := c2 k hk
      have s1' : D 282 k = D 334 k := s1
      have hN : qf_N (D 282 k) := (qf_n64 _).mp s2
      refine qv_same h ((D 282 k).toInt64) ?_ ?_
      · simp only [fX11_score, e1, hb, qc_bds, if_true, c1', hb16, qc_gdt, hk2, fx_bitsOfDouble hN]
      · simp only [fX12_score, e2, hb, qc_bds, if_true, ← b6', c1', hb16, qc_gdt, hk2, ← s1', fj_dbits hN]
    · have c1' : I 280 6 = 1 := c1
      have hb8 : qc_inb x 8 = true := (qi_inb_iff x 8).mpr (by have := (qi_inb_iff x hh).mp hb; omega)
      have c3' : L 283 k = L 335 k := c3 k hk
      refine qv_same h (L 283 k) ?_ ?_
      · simp only [fX11_score, e1, hb, qc_bds, if_true, c1', show ¬ (1 : Int32) = 0 by decide, if_false, hb8, qc_gdt, hk2]
      · simp only [fX12_score, e2, hb, qc_bds, if_true, ← b6', c1', show ¬ (1 : Int32) = 0 by decide, if_false, hb8, qc_gdt, hk2, ← c3']
theorem qf_div_i {x : UInt64} {m : Int32} (hx : qf_N x) (hm : m ≠ 0) : qf_N (FP.ddiv x (FP.i2d m)) := by
  have h1 : FP.Core.DFin (FP.i2d m) := FP.Core.i2d_fin m
  have h2 : ¬ FP.Core.DZero (FP.i2d m) := fun q => FP.Core.i2d_ne_zero hm ((FP.Core.zero_bits2 _).mp q)
  exact (FP.Core.notNaN_iff _).mp (FP.Core.ddiv_out ((FP.Core.notNaN_iff x).mpr hx) h1 h2)
theorem pp_value (h : Inv w (I, L, D, R)) (x : Int32) : qv_pp w (fun I L D R => fX11_value w I L D R x) (fun I L D R => fX12_value w I L D R x) (I, L, D, R) := by
  obtain ⟨b0, b1, b2, b3, b4, b5, b6, hh, b7, b8, b9, b10⟩ := h.2.2.2.2.2.2.2.2
  have b6' : I 280 6 = I 291 82 := b6
  obtain ⟨e1, e2⟩ := qi_hits (w := w) (L := L) (D := D) (R := R) b8 b7 b5 x
  rcases b10 with ⟨c1, -⟩ | ⟨c1, c2, -, r, c, d1, d2, d3, d4, d5, d6, d7, d8, d9, d10⟩
  · have c1' : I 280 6 = 0 := c1
    refine qv_same h (-9223372036854775808) ?_ (by simp only [fX12_value, ← b6', c1', if_true])
    simp only [fX11_value, e1, qc_bds, c1', if_true]
    split <;> rfl
  · have c1' : I 280 6 = 1 := c1
    have n10 : ¬ (1 : Int32) = 0 := by decide
    cases hb : qc_inb x hh
    · exact qv_same h (-9223372036854775808) (by simp only [fX11_value, e1, hb, qc_bds, qf_ff]) (by simp only [fX12_value, ← b6', c1', n10, if_false, e2, hb, qc_bds, qf_ff])
    · obtain ⟨k, hk, -, hk2⟩ := qi_k hb (by omega)
      have hb16 : qc_inb x 16 = true := (qi_inb_iff x 16).mpr (by have := (qi_inb_iff x hh).mp hb; omega)
      have hb8 : qc_inb x 8 = true := (qi_inb_iff x 8).mpr (by have := (qi_inb_iff x hh).mp hb; omega)
      obtain ⟨v1, v2, v3⟩ := d10 k hk
      obtain ⟨w1, w2⟩ := b9 k hk
      have w1' : I 281 k = I 333 k := w1
      have d1' : I 291 77 = nI r := d1
      have d4' : I 280 13 = nI c := d4
      have d5' : I 291 88 = nI c := d5
      have hX0 : fX11_value w I L D R x = (qc_bd (fX3_valueBits w I L D R x) fun r4 I4 L4 D4 R4 => some (r4, I4, L4, D4, R4)) := by
        simp only [fX11_value, e1, hb, qc_bds, if_true, c1', n10, if_false]
      have hM0 : fX12_value w I L D R x = if I 321 r = (4 : Int32) then (if (I 281 k) = 0 then (fX12_value_b67 w I L D R (0 : UInt64)) else (qc_gd (qc_n64 (FP.ddiv (D 337 k) (FP.i2d (I 281 k)))) <| fX12_value_b67 w I L D R (FP.ddiv (D 337 k) (FP.i2d (I 281 k))))) else (if (3 : Int32) ≤ nI c then (if nI c = (3 : Int32) then (qc_gd (qc_n32 (FP.d2f (D 337 k))) <| qc_bd (fJxf58ca_floatToIntBits_5c35a w I L D R (FP.d2f (D 337 k))) fun r13 I13 L13 D13 R13 => some ((Int32.toInt64 r13), I13, L13, D13, R13)) else (qc_bd (fJxe99ae_doubleToLongBits_ccdee w I L D R (D 337 k)) fun r10 I10 L10 D10 R10 => some (r10, I10, L10, D10, R10))) else some (L 336 k, I, L, D, R)) := by
        simp only [fX12_value, ← b6', c1', n10, if_false, e2, hb, qc_bds, if_true, d1', qi_inbN d2 (by decide), qc_gdt, nI_clamp (show r < 2 ^ 31 by omega), hb16, hb8, hk2, ← w1', d5']
      have hX1 : fX3_valueBits w I L D R x = if (2 : Int32) < nI c then (if nI c = (3 : Int32) then (qc_bd (fX8_bitsOfFloat w I L D R (D 285 k)) fun r14 I14 L14 D14 R14 => some (r14, I14, L14, D14, R14)) else (qc_gd (qc_l62 (R 280 12)) <| if (R 280 12) = 12 then (if (I 281 k) ≤ 0 then (fX3_valueBits_b85 w I L D R (D 285 k)) else (qc_gd (qc_n64 (FP.ddiv (D 285 k) (FP.i2d (I 281 k)))) <| fX3_valueBits_b85 w I L D R (FP.ddiv (D 285 k) (FP.i2d (I 281 k))))) else (fX3_valueBits_b85 w I L D R (D 285 k)))) else some (L 284 k, I, L, D, R) := by
        simp only [fX3_valueBits, fX3_valueBits_b56, fX3_valueBits_b57, d4', hb8, hb16, qc_gdt, hk2, if_true, n10, if_false]
      have c3i : ((3 : Int32) ≤ nI c) ↔ 3 ≤ c := qi_le (a := 3) (by decide) (by omega)
      have c2i : ((2 : Int32) < nI c) ↔ 2 < c := qi_lt (a := 2) (by decide) (by omega)
      have c3e : (nI c = (3 : Int32)) ↔ c = 3 := qi_nI_inj' (j := 3) (by omega) (by decide)
      by_cases hc2 : c ≤ 2
      · have hne4 : ¬ I 321 r = 4 := fun q => by have := d9 q; omega
        have v1' : L 284 k = L 336 k := v1 hc2
        rw [if_neg (fun q => by have := c2i.mp q; omega)] at hX1
        rw [if_neg hne4, if_neg (fun q => by have := c3i.mp q; omega), ← v1'] at hM0
        rw [hX1, qc_bds] at hX0
        exact qv_same h _ hX0 hM0
      · obtain ⟨u1, u2, u3⟩ := v2 (by omega)
        have u1' : D 285 k = D 337 k := u1
        have hN : qf_N (D 285 k) := (qf_n64 _).mp u2
        rw [if_pos (c2i.mpr (by omega))] at hX1
        by_cases hc3 : c = 3
        · obtain ⟨f, f1, f2⟩ := v3 hc3
          have hf := (qf_n32 f).mp f1
          have f2' : D 285 k = FP.f2d f := f2
          have hne4 : ¬ I 321 r = 4 := fun q => by have := d9 q; omega
          rw [if_pos (c3e.mpr hc3), f2', fx_bitsOfFloat hf, qc_bds] at hX1
          rw [if_neg hne4, if_pos (c3i.mpr (by omega)), if_pos (c3e.mpr hc3), ← u1', f2', qf_d2f hf, f1, qc_gdt, fj_fbits hf, qc_bds] at hM0
          rw [hX1, qc_bds] at hX0
          exact qv_same h _ hX0 hM0
        · rw [if_neg (fun q => hc3 (c3e.mp q))] at hX1
          have hb85 : ∀ y, qf_N y → fX3_valueBits_b85 w I L D R y = some (y.toInt64, I, L, D, R) := fun y hy => by
            unfold fX3_valueBits_b85
            rw [fx_bitsOfDouble hy, qc_bds]
          have hb67 : ∀ y, qf_N y → fX12_value_b67 w I L D R y = some (y.toInt64, I, L, D, R) := fun y hy => by
            unfold fX12_value_b67
            rw [fj_dbits hy, qc_bds]
          have hl62 : qc_l62 (R 280 12) = true ∧ ((R 280 12 = 12) ↔ I 321 r = 4) := by
            rcases d8 with ⟨q1, q2⟩ | ⟨q1, q2⟩ | ⟨q1, q2⟩ | ⟨q1, q2⟩ | ⟨q1, q2⟩ <;> (have q1' : R 280 12 = _ := q1; have q2' : I 321 r = _ := q2; rw [q1', q2']; decide)
          rw [hl62.1, qc_gdt] at hX1
          by_cases h4 : I 321 r = 4
          · rw [if_pos (hl62.2.mpr h4)] at hX1
            rw [if_pos h4, ← u1'] at hM0
            obtain ⟨m, hm, hm2, -⟩ := qi_k w2 (by decide)
            have hm2' : I 281 k = nI m := hm2
            by_cases m0 : I 281 k = 0
            · have u3' : D 285 k = 0 := u3 m0
              rw [if_pos (by rw [m0]; exact Int32.le_refl _), u3', hb85 _ qf_N0] at hX1
              rw [if_pos m0, hb67 _ qf_N0] at hM0
              rw [hX1, qc_bds] at hX0
              exact qv_same h _ hX0 hM0
            · have hle : ¬ I 281 k ≤ 0 := by
                rw [hm2']
                intro q
                have := (qi_le (b := 0) (by omega) (by decide)).mp q
                apply m0
                rw [hm2', show m = 0 by omega]
                rfl
              have hd := qf_div_i (m := I 281 k) hN m0
              rw [if_neg hle, (qf_n64 _).mpr hd, qc_gdt, hb85 _ hd] at hX1
              rw [if_neg m0, (qf_n64 _).mpr hd, qc_gdt, hb67 _ hd] at hM0
              rw [hX1, qc_bds] at hX0
              exact qv_same h _ hX0 hM0
          · rw [if_neg (fun q => h4 (hl62.2.mp q)), hb85 _ hN] at hX1
            rw [if_neg h4, if_pos (c3i.mpr (by omega)), if_neg (fun q => hc3 (c3e.mp q)), ← u1', fj_dbits hN, qc_bds] at hM0
            rw [hX1, qc_bds] at hX0
            exact qv_same h _ hX0 hM0
end
