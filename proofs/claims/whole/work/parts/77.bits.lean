/-! doubles and floats by their bits -/
section
variable {w : qcW} {I : qTI} {L : qTL} {D : qTD} {R : qTR}
theorem qf_shr (U : UInt64) {k : Nat} {s : UInt64} (hs : s.toNat % 64 = k) : (U >>> s).toNat = U.toNat / 2 ^ k := by
  rw [UInt64.toNat_shiftRight, hs, Nat.shiftRight_eq_div_pow]
theorem qf_e52 (x0 : Int64) : Int64.toInt32 ((UInt64.toInt64 (Int64.toUInt64 x0 >>> (Int64.toUInt64 (Int32.toInt64 (52 : Int32)) &&& Int64.toUInt64 63))) &&& (Int32.toInt64 (((2 : Int32) * (1023 : Int32)) + (1 : Int32)))) = nI (x0.toUInt64.toNat / 2 ^ 52 % 2 ^ 11) := by
  rw [show (Int32.toInt64 (((2 : Int32) * (1023 : Int32)) + (1 : Int32))) = (UInt64.ofNat (2 ^ 11 - 1)).toInt64 by decide, qi_and32 _ 11 (by decide), qf_shr (k := 52) _ (by decide)]
theorem qf_e23 (x0 : Int64) : Int64.toInt32 ((UInt64.toInt64 (Int64.toUInt64 x0 >>> (Int64.toUInt64 (Int32.toInt64 (23 : Int32)) &&& Int64.toUInt64 63))) &&& (Int32.toInt64 (((2 : Int32) * (127 : Int32)) + (1 : Int32)))) = nI (x0.toUInt64.toNat / 2 ^ 23 % 2 ^ 8) := by
  rw [show (Int32.toInt64 (((2 : Int32) * (127 : Int32)) + (1 : Int32))) = (UInt64.ofNat (2 ^ 8 - 1)).toInt64 by decide, qi_and32 _ 8 (by decide), qf_shr (k := 23) _ (by decide)]
theorem qf_t52 (x0 : Int64) : x0 &&& (((1 : Int64) <<< (Int32.toInt64 (52 : Int32) &&& 63)) - (1 : Int64)) = nL (x0.toUInt64.toNat % 2 ^ 52) := by
  rw [show (((1 : Int64) <<< (Int32.toInt64 (52 : Int32) &&& 63)) - (1 : Int64)) = nL (2 ^ 52 - 1) by decide]
  exact qi_and64 x0.toUInt64 52 (by decide)
theorem qf_t23 (x0 : Int64) : x0 &&& (((1 : Int64) <<< (Int32.toInt64 (23 : Int32) &&& 63)) - (1 : Int64)) = nL (x0.toUInt64.toNat % 2 ^ 23) := by
  rw [show (((1 : Int64) <<< (Int32.toInt64 (23 : Int32) &&& 63)) - (1 : Int64)) = nL (2 ^ 23 - 1) by decide]
  exact qi_and64 x0.toUInt64 23 (by decide)
theorem qi_s2 (a b c d : Nat) (h : a + d = c + b) : nI a - nI b = nI c - nI d := by
  have h1 : nI a + nI d = nI c + nI b := by rw [nI_add, nI_add, h]
  have h2 : nI a = nI c + nI b - nI d := by rw [← h1, Int32.add_sub_cancel]
  rw [h2, Int32.sub_eq_add_neg, Int32.sub_eq_add_neg, Int32.sub_eq_add_neg, Int32.add_assoc (nI c), Int32.add_assoc (nI c), Int32.add_comm (nI b), Int32.add_assoc (-nI d), Int32.add_right_neg, Int32.add_zero]
theorem qi_s3 (a b b' c d : Nat) (h : a + d = c + (b + b')) : nI a - nI b - nI b' = nI c - nI d := by
  have h1 : nI a - nI b - nI b' = nI a - nI (b + b') := by
    rw [← nI_add, Int32.sub_eq_add_neg, Int32.sub_eq_add_neg, Int32.sub_eq_add_neg, Int32.neg_add, Int32.add_assoc, Int32.sub_eq_add_neg]
  rw [h1]
  exact qi_s2 _ _ _ _ h
theorem qi_neg64 (x0 : Int64) : (0 ≤ lg_cmp x0 0) ↔ x0.toUInt64.toNat < 2 ^ 63 := by
  rw [lg_cmp_ge, Int64.le_iff_toInt_le]
  show (0 : Int) ≤ x0.toBitVec.toInt ↔ x0.toBitVec.toNat < _
  rw [BitVec.toInt_eq_toNat_cond]
  have := x0.toBitVec.isLt
  split <;> omega
/-- the sign set -/
theorem qf_b80 (x0 : Int64) (y : UInt64) (hU : qf_N x0.toUInt64) (hy : y.toNat = x0.toUInt64.toNat % 2 ^ 63) : fX8_decoded_b80 w I L D R x0 y = some (x0.toUInt64, I, L, D, R) := by
  have hx := x0.toUInt64.toNat_lt
  have hyN : qf_N y := by rw [qf_N_iff] at hU ⊢; rw [hy]; omega
  unfold fX8_decoded_b80
  simp only [qi_neg64]
  by_cases h : x0.toUInt64.toNat < 2 ^ 63
  · rw [if_pos h, show y = x0.toUInt64 from UInt64.toNat_inj.mp (by rw [hy]; omega)]
  · rw [if_neg h, show FP.dneg y = x0.toUInt64 from UInt64.toNat_inj.mp (by rw [qf_neg hyN, hy]; split <;> omega)]
theorem fx_doubleOf {x0 : Int64} (hU : qf_N x0.toUInt64) : fX8_doubleOf w I L D R x0 = some (x0.toUInt64, I, L, D, R) := by
  have hx := x0.toUInt64.toNat_lt
  have hU2 := (qf_N_iff _).mp hU
  unfold fX8_doubleOf fX8_decoded
  rw [qf_e52, qf_t52]
  generalize hn : x0.toUInt64.toNat = n at *
  have hE : n / 2 ^ 52 % 2 ^ 11 < 2 ^ 11 := Nat.mod_lt _ (by decide)
  have ht : n % 2 ^ 52 < 2 ^ 52 := Nat.mod_lt _ (by decide)
  have hm : n % 2 ^ 63 = n / 2 ^ 52 % 2 ^ 11 * 2 ^ 52 + n % 2 ^ 52 := by omega
  have done : ∀ y : UInt64, y.toNat = n % 2 ^ 63 → (qc_bd (fX8_decoded_b80 w I L D R x0 y) fun r1 I1 L1 D1 R1 => some (r1, I1, L1, D1, R1)) = some (x0.toUInt64, I, L, D, R) := by
    intro y hy
    rw [qf_b80 x0 y hU (by rw [hn]; exact hy)]
    rfl
  generalize n / 2 ^ 52 % 2 ^ 11 = E at *
  generalize n % 2 ^ 52 = t at *
  have c1 : (nI E = ((2 : Int32) * (1023 : Int32)) + (1 : Int32)) ↔ E = 2047 := by
    rw [show ((2 : Int32) * (1023 : Int32)) + (1 : Int32) = nI 2047 by decide]
    exact qi_nI_inj' (by omega) (by omega)
  have c2 : (nI E = 0) ↔ E = 0 := qi_nI_inj' (i := E) (j := 0) (by omega) (by omega)
  by_cases h1 : E = 2047
  · rw [if_pos (c1.mpr h1)]
    exact done _ (by rw [hm]; show 9218868437227405312 = _; omega)
  · rw [if_neg (fun q => h1 (c1.mp q))]
    by_cases h2 : E = 0
    · rw [if_pos (c2.mpr h2), qf_l2d (by omega), show ((1 : Int32) - 1023) - 52 = nI 0 - nI 1074 by decide, qf_sc (by omega) (by omega)]
      exact done _ (by rw [qf_mk_bits (by omega) (by omega) (Or.inl rfl)]; omega)
    · rw [if_neg (fun q => h2 (c2.mp q)), show (1 : Int64) <<< (Int32.toInt64 (52 : Int32) &&& 63) = nL (2 ^ 52) by decide, nL_add, qf_l2d (by omega), show (1023 : Int32) = nI 1023 by decide, show (52 : Int32) = nI 52 by decide, qi_s3 E 1023 52 (E - 1) 1074 (by omega), qf_sc (by omega) (by omega)]
      exact done _ (by rw [qf_mk_bits (by omega) (by omega) (Or.inr (by omega))]; omega)
/-! floats -/
def qf_N32 (x : UInt32) : Prop := FP.Core.val32 x ≠ .nan
theorem qf_n32 (x : UInt32) : qc_n32 x = true ↔ qf_N32 x := by
  unfold qc_n32 qf_N32
  rw [decide_eq_true_eq, UInt32.le_iff_toNat_le, FP.Core.mask_toNat32, FP.Core.ne_nan32]
  exact Iff.rfl
theorem qf_N32_iff (x : UInt32) : qf_N32 x ↔ x.toNat % 2 ^ 31 ≤ 2139095040 := FP.Core.ne_nan32 x
theorem qf_f2d_core {a : UInt32} (h : qf_N32 a) : FP.f2d a = FP.Core.f2d a := FP.f2d_core ((FP.Core.notNaN_iff32 a).mpr h)
theorem qf_f2d_N {a : UInt32} (h : qf_N32 a) : qf_N (FP.f2d a) := by
  rw [qf_f2d_core h]
  exact (FP.Core.notNaN_iff _).mp (FP.Core.f2d_out ((FP.Core.notNaN_iff32 a).mpr h))
theorem qf_f2d_mk {a : UInt32} {s : Bool} {c : Nat} {q : Int} (hv : FP.Core.val32 a = .fin s c q) : FP.f2d a = qf_mk s c (q + 1074).toNat ∧ c < 2 ^ 24 ∧ -149 ≤ q ∧ q ≤ 104 := by
  have hf := FP.Core.val32_fits a
  rw [hv] at hf
  obtain ⟨h1, h2, h3, h4⟩ := hf
  have e1 : FP.Core.b32.qmin = -149 := rfl
  have e2 : FP.Core.b32.qmax = 104 := rfl
  have e3 : FP.Core.b32.p = 24 := rfl
  rw [e1] at h2
  rw [e2] at h3
  rw [e3] at h1
  have hN : qf_N32 a := by unfold qf_N32; rw [hv]; exact fun h => by cases h
  refine ⟨?_, h1, h2, h3⟩
  obtain ⟨m1, m2, m3⟩ := qf_mk_of (s := s) (c := c) (k := (q + 1074).toNat) (by omega) (by omega)
  refine qf_val m1.N ?_
  rw [qf_f2d_core hN, FP.Core.val64_f2d, hv]
  unfold qf_mk
  rw [FP.Core.val64_of64 (FP.Core.round_fits FP.Core.good_b64 _), show (((q + 1074).toNat : Nat) : Int) - 1074 = q by omega]
theorem qf_f2d_fin {a : UInt32} (h : a.toNat % 2 ^ 31 < 2139095040) : qf_F (FP.f2d a) ∧ qf_S (FP.f2d a) = decide (2 ^ 31 ≤ a.toNat) ∧ qf_Z (FP.f2d a) = FP.Core.unitsOf FP.Core.b32 (a.toNat % 2 ^ 31) * 2 ^ 925 := by
  obtain ⟨s, c, q, hv⟩ := (FP.Core.fin_bits32 a).mpr h
  have hN : FP.Core.val32 a ≠ .nan := by rw [hv]; exact fun h => by cases h
  obtain ⟨h1, h2, h3, h4⟩ := qf_f2d_mk hv
  obtain ⟨m1, m2, m3⟩ := qf_mk_of (s := s) (c := c) (k := (q + 1074).toNat) (by omega) (by omega)
  rw [h1]
  refine ⟨m1, ?_, ?_⟩
  · rw [m2, ← FP.Core.sgn_bits32 hN, hv]
    rfl
  · rw [m3, ← FP.Core.zmag_bits32 hN, hv]
    show c * 2 ^ _ = c * 2 ^ (q - FP.Core.b32.qmin).toNat * 2 ^ 925
    have e1 : FP.Core.b32.qmin = -149 := rfl
    rw [e1, Nat.mul_assoc, ← Nat.pow_add, show (q - -149).toNat + 925 = (q + 1074).toNat by omega]
theorem qf_f2d_inf {a : UInt32} (h : a.toNat % 2 ^ 31 = 2139095040) : (FP.f2d a).toNat = if 2 ^ 31 ≤ a.toNat then 18442240474082181120 else 9218868437227405312 := by
  have ha := a.toNat_lt
  split
  · rw [show a = 4286578688 from UInt32.toNat_inj.mp (by show a.toNat = 4286578688; omega)]
    decide +kernel
  · rw [show a = 2139095040 from UInt32.toNat_inj.mp (by show a.toNat = 2139095040; omega)]
    decide +kernel
theorem qf_u32 (x : Int32) : (Int32.toInt64 x).toUInt64.toNat = if x.toUInt32.toNat < 2 ^ 31 then x.toUInt32.toNat else x.toUInt32.toNat + (2 ^ 64 - 2 ^ 32) := by
  show (x.toBitVec.signExtend 64).toNat = if x.toBitVec.toNat < 2 ^ 31 then _ else _
  have h1 := x.toBitVec.isLt
  rw [BitVec.toNat_signExtend]
  by_cases h : x.toBitVec.toNat < 2 ^ 31
  · rw [if_pos h, show x.toBitVec.msb = false from by rw [BitVec.msb_eq_false_iff_two_mul_lt]; omega]
    rw [BitVec.toNat_setWidth]
    show x.toBitVec.toNat % 2 ^ 64 + 0 = x.toBitVec.toNat
    omega
  · rw [if_neg h, show x.toBitVec.msb = true from by rw [BitVec.msb_eq_true_iff_two_mul_ge]; omega]
    rw [BitVec.toNat_setWidth]
    show x.toBitVec.toNat % 2 ^ 64 + (2 ^ 64 - 2 ^ 32) = x.toBitVec.toNat + (2 ^ 64 - 2 ^ 32)
    omega
theorem qf_b80f (x : Int32) (y : UInt64) (hN : qf_N32 x.toUInt32) (hyN : qf_N y) (h0 : qf_S y = false) (hz : qf_Z y = qf_Z (FP.f2d x.toUInt32)) : fX8_decoded_b80 w I L D R (Int32.toInt64 x) y = some (FP.f2d x.toUInt32, I, L, D, R) := by
  have hx := x.toUInt32.toNat_lt
  have hN2 := (qf_N32_iff _).mp hN
  have hyM : ¬ 2 ^ 63 ≤ y.toNat := by
    unfold qf_S at h0
    rw [FP.Core.sgn_bits hyN] at h0
    exact of_decide_eq_false h0
  have hS : qf_S (FP.f2d x.toUInt32) = decide (2 ^ 31 ≤ x.toUInt32.toNat) := by
    by_cases h : x.toUInt32.toNat % 2 ^ 31 = 2139095040
    · unfold qf_S
      rw [FP.Core.sgn_bits (qf_f2d_N hN), qf_f2d_inf h]
      congr 1
      apply propext
      split <;> omega
    · exact (qf_f2d_fin (by omega)).2.1
  unfold fX8_decoded_b80
  simp only [qi_neg64]
  have hu := qf_u32 x
  by_cases h : x.toUInt32.toNat < 2 ^ 31
  · rw [if_pos h] at hu
    rw [if_pos (by omega), show y = FP.f2d x.toUInt32 from qf_eq hyN (qf_f2d_N hN) (by rw [h0, hS]; exact (decide_eq_false (by omega)).symm) hz]
  · rw [if_neg h] at hu
    rw [if_neg (by omega), show FP.dneg y = FP.f2d x.toUInt32 from qf_eq (qf_neg_N hyN) (qf_f2d_N hN) ?_ ?_]
    · unfold qf_S
      rw [FP.Core.sgn_bits (qf_neg_N hyN), qf_neg hyN, if_neg hyM]
      show _ = qf_S (FP.f2d x.toUInt32)
      rw [hS, decide_eq_true (by omega), decide_eq_true (by omega)]
    · rw [← hz]
      unfold qf_Z
      rw [FP.Core.zmag_bits (qf_neg_N hyN), FP.Core.zmag_bits hyN, qf_neg hyN, if_neg hyM, Nat.add_mod_right]
theorem fx_floatOf {x : Int32} (hN : qf_N32 x.toUInt32) : fX8_floatOf w I L D R x = some (FP.f2d x.toUInt32, I, L, D, R) := by
  have hx := x.toUInt32.toNat_lt
  have hN2 := (qf_N32_iff _).mp hN
  have hu := qf_u32 x
  unfold fX8_floatOf fX8_decoded
  rw [qf_e23, qf_t23]
  have hE1 : (Int32.toInt64 x).toUInt64.toNat / 2 ^ 23 % 2 ^ 8 = x.toUInt32.toNat / 2 ^ 23 % 2 ^ 8 := by rw [hu]; split <;> omega
  have ht1 : (Int32.toInt64 x).toUInt64.toNat % 2 ^ 23 = x.toUInt32.toNat % 2 ^ 23 := by rw [hu]; split <;> omega
  rw [hE1, ht1]
  have done : ∀ y : UInt64, qf_N y → qf_S y = false → qf_Z y = qf_Z (FP.f2d x.toUInt32) → (qc_bd (fX8_decoded_b80 w I L D R (Int32.toInt64 x) y) fun r1 I1 L1 D1 R1 => some (r1, I1, L1, D1, R1)) = some (FP.f2d x.toUInt32, I, L, D, R) := by
    intro y h1 h2 h3
    rw [qf_b80f x y hN h1 h2 h3]
    rfl
  have hm : x.toUInt32.toNat % 2 ^ 31 = x.toUInt32.toNat / 2 ^ 23 % 2 ^ 8 * 2 ^ 23 + x.toUInt32.toNat % 2 ^ 23 := by omega
  have hfin : x.toUInt32.toNat % 2 ^ 31 < 2139095040 → qf_Z (FP.f2d x.toUInt32) = FP.Core.unitsOf FP.Core.b32 (x.toUInt32.toNat % 2 ^ 31) * 2 ^ 925 := fun h => (qf_f2d_fin h).2.2
  have hinf : x.toUInt32.toNat % 2 ^ 31 = 2139095040 → qf_Z (FP.f2d x.toUInt32) = qf_Z 9218868437227405312 := by
    intro h
    have h9 := qf_f2d_inf h
    unfold qf_Z
    rw [FP.Core.zmag_bits (qf_f2d_N hN), FP.Core.zmag_bits (by decide +kernel), h9]
    congr 1
    split <;> rfl
  have hE : x.toUInt32.toNat / 2 ^ 23 % 2 ^ 8 < 2 ^ 8 := Nat.mod_lt _ (by decide)
  have ht : x.toUInt32.toNat % 2 ^ 23 < 2 ^ 23 := Nat.mod_lt _ (by decide)
  generalize x.toUInt32.toNat % 2 ^ 31 = m at *
  generalize x.toUInt32.toNat / 2 ^ 23 % 2 ^ 8 = E at *
  generalize x.toUInt32.toNat % 2 ^ 23 = t at *
  have c1 : (nI E = ((2 : Int32) * (127 : Int32)) + (1 : Int32)) ↔ E = 255 := by
    rw [show ((2 : Int32) * (127 : Int32)) + (1 : Int32) = nI 255 by decide]
    exact qi_nI_inj' (by omega) (by omega)
  have c2 : (nI E = 0) ↔ E = 0 := qi_nI_inj' (i := E) (j := 0) (by omega) (by omega)
  by_cases h1 : E = 255
  · rw [if_pos (c1.mpr h1)]
    exact done _ (by rw [qf_N_iff]; decide) (by decide +kernel) (hinf (by omega)).symm
  · rw [if_neg (fun q => h1 (c1.mp q))]
    have hz := hfin (by omega)
    unfold FP.Core.unitsOf at hz
    rw [FP.Core.tails_b32] at hz
    by_cases h2 : E = 0
    · rw [if_pos (c2.mpr h2), qf_l2d (by omega), show ((1 : Int32) - 127) - 23 = nI 925 - nI 1074 by decide, qf_sc (by omega) (by omega)]
      obtain ⟨m1, m2, m3⟩ := qf_mk_of (s := false) (c := t) (k := 925) (by omega) (by omega)
      refine done _ m1.N m2 ?_
      rw [m3, hz, if_pos (by omega)]
      congr 1
      omega
    · rw [if_neg (fun q => h2 (c2.mp q)), show (1 : Int64) <<< (Int32.toInt64 (23 : Int32) &&& 63) = nL (2 ^ 23) by decide, nL_add, qf_l2d (by omega), show (127 : Int32) = nI 127 by decide, show (23 : Int32) = nI 23 by decide, qi_s3 E 127 23 (E + 924) 1074 (by omega), qf_sc (by omega) (by omega)]
      obtain ⟨m1, m2, m3⟩ := qf_mk_of (s := false) (c := t + 2 ^ 23) (k := E + 924) (by omega) (by omega)
      refine done _ m1.N m2 ?_
      rw [m3, hz, if_neg (by omega), show m % 2 ^ 23 = t by omega, show m / 2 ^ 23 = E by omega, Nat.mul_assoc, ← Nat.pow_add, Nat.add_comm t, show E - 1 + 925 = E + 924 by omega]
end
