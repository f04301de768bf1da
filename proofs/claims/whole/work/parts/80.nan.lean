/-! which bits are no number -/
theorem nL_inj {a b : Nat} (ha : a < 2 ^ 63) (hb : b < 2 ^ 63) : nL a = nL b ↔ a = b := by
  constructor
  · intro h
    have h1 := congrArg Int64.toInt h
    rw [nL_toInt ha, nL_toInt hb] at h1
    omega
  · intro h
    rw [h]
section
variable {w : qcW} {I : qTI} {L : qTL} {D : qTD} {R : qTR}
theorem fx_isNoDouble (x : Int64) : fX8_isNoDouble w I L D R x = some (!qc_n64 x.toUInt64, I, L, D, R) := by
  have hx := x.toUInt64.toNat_lt
  have hn := qf_n64 x.toUInt64
  rw [qf_N_iff] at hn
  unfold fX8_isNoDouble fX8_isNoNumber
  rw [show (Int32.toInt64 (((2 : Int32) * (1023 : Int32)) + (1 : Int32))) = nL (2 ^ 11 - 1) by decide, qi_and64 _ 11 (by decide), qf_shr (k := 52) _ (by decide), qf_t52]
  simp only [lg_cmp_eq]
  rw [show (0 : Int64) = nL 0 by decide]
  simp only [nL_inj (show x.toUInt64.toNat / 2 ^ 52 % 2 ^ 11 < 2 ^ 63 by omega) (show 2 ^ 11 - 1 < 2 ^ 63 by decide), nL_inj (show x.toUInt64.toNat % 2 ^ 52 < 2 ^ 63 by omega) (show 0 < 2 ^ 63 by decide)]
  by_cases h : x.toUInt64.toNat % 2 ^ 63 ≤ 9218868437227405312
  · rw [hn.mpr h]
    by_cases h1 : x.toUInt64.toNat / 2 ^ 52 % 2 ^ 11 = 2 ^ 11 - 1
    · rw [if_pos h1, if_pos (by omega)]
      rfl
    · rw [if_neg h1]
      rfl
  · have hn2 : qc_n64 x.toUInt64 = false := by
      cases e : qc_n64 x.toUInt64
      · rfl
      · exact absurd (hn.mp e) h
    rw [hn2, if_pos (by omega), if_neg (by omega)]
    rfl
theorem fx_isNoFloat (x : Int32) : fX8_isNoFloat w I L D R x = some (!qc_n32 x.toUInt32, I, L, D, R) := by
  have hx := x.toUInt32.toNat_lt
  have hn := qf_n32 x.toUInt32
  have hu := qf_u32 x
  rw [qf_N32_iff] at hn
  unfold fX8_isNoFloat fX8_isNoNumber
  rw [show (Int32.toInt64 (((2 : Int32) * (127 : Int32)) + (1 : Int32))) = nL (2 ^ 8 - 1) by decide, qi_and64 _ 8 (by decide), qf_shr (k := 23) _ (by decide), qf_t23]
  have hE1 : (Int32.toInt64 x).toUInt64.toNat / 2 ^ 23 % 2 ^ 8 = x.toUInt32.toNat / 2 ^ 23 % 2 ^ 8 := by rw [hu]; split <;> omega
  have ht1 : (Int32.toInt64 x).toUInt64.toNat % 2 ^ 23 = x.toUInt32.toNat % 2 ^ 23 := by rw [hu]; split <;> omega
  rw [hE1, ht1]
  simp only [lg_cmp_eq]
  rw [show (0 : Int64) = nL 0 by decide]
  simp only [nL_inj (show x.toUInt32.toNat / 2 ^ 23 % 2 ^ 8 < 2 ^ 63 by omega) (show 2 ^ 8 - 1 < 2 ^ 63 by decide), nL_inj (show x.toUInt32.toNat % 2 ^ 23 < 2 ^ 63 by omega) (show 0 < 2 ^ 63 by decide)]
  by_cases h : x.toUInt32.toNat % 2 ^ 31 ≤ 2139095040
  · rw [hn.mpr h]
    by_cases h1 : x.toUInt32.toNat / 2 ^ 23 % 2 ^ 8 = 2 ^ 8 - 1
    · rw [if_pos h1, if_pos (by omega)]
      rfl
    · rw [if_neg h1]
      rfl
  · have hn2 : qc_n32 x.toUInt32 = false := by
      cases e : qc_n32 x.toUInt32
      · rfl
      · exact absurd (hn.mp e) h
    rw [hn2, if_pos (by omega), if_neg (by omega)]
    rfl
end
