/-! bits told from a double -/
theorem qi_dif {a b : Nat} (ha : a < 2 ^ 30) (hb : b < 2 ^ 30) : (nI a - nI b).toInt = (a : Int) - (b : Int) := by
  rw [Int32.toInt_sub, nI_toInt (by omega), nI_toInt (by omega)]
  exact Int.bmod_eq_of_le (by omega) (by omega)
theorem nI_L {k : Nat} (h : k < 2 ^ 31) : Int32.toInt64 (nI k) = nL k := by
  apply Int64.toInt_inj.mp
  rw [Int32.toInt_toInt64, nI_toInt h, nL_toInt (by omega)]
theorem qi_shl {k j : Nat} {s : Int64} (hs : (s.toBitVec.smod 64).toNat = j) : nL k <<< s = nL (k * 2 ^ j) := by
  apply Int64.toBitVec_inj.mp
  show (UInt64.ofNat k).toBitVec <<< (s.toBitVec.smod 64) = (UInt64.ofNat (k * 2 ^ j)).toBitVec
  apply BitVec.eq_of_toNat_eq
  rw [BitVec.shiftLeft_eq', BitVec.toNat_shiftLeft, hs]
  show (k % 2 ^ 64) <<< j % 2 ^ 64 = (k * 2 ^ j) % 2 ^ 64
  rw [Nat.shiftLeft_eq, Nat.mod_mul_mod]
section
variable {w : qcW} {I : qTI} {L : qTL} {D : qTD} {R : qTR}
theorem qf_max {a b : Int32} (m : Int32) (h : (b ≤ a ∧ m = a) ∨ (a ≤ b ∧ m = b)) : fJ9_max_7cf53 w I L D R a b = some (m, I, L, D, R) := by
  unfold fJ9_max_7cf53
  by_cases h1 : b ≤ a
  · rcases h with ⟨h2, rfl⟩ | ⟨h2, rfl⟩
    · simp only [h1, if_true, if_false, Int32.not_lt.mpr h1]
    · have : a = m := Int32.le_antisymm h2 h1
      subst this
      simp
  · have h3 : a < b := Int32.not_le.mp h1
    rcases h with ⟨h2, rfl⟩ | ⟨h2, rfl⟩
    · exact absurd h2 h1
    · simp only [h1, if_true, if_false, h3]
theorem qf_d2l {c : Nat} (hc : c < 2 ^ 53) : FP.d2l (qf_mk false c 1074) = nL c := by
  rw [← qf_l2d hc]
  exact FP.Core.d2l_l2d_small ⟨by rw [nL_toInt (by omega)]; omega, by rw [nL_toInt (by omega)]; omega⟩
/-- scaled to a whole number -/
theorem qf_sc2 {c j : Nat} (hc2 : c < 2 ^ 53) (hj : j ≤ 2045) : fX8_scaled w I L D R (qf_mk false c j) (nI 1074 - nI j) = some (qf_mk false c 1074, I, L, D, R) := by
  by_cases h5 : j ≤ 1074
  · rw [qi_sub h5]
    have h2 := qf_scUp (w := w) (I := I) (L := L) (D := D) (R := R) (T := 1074 - j) (Y := fun d => qf_mk false c (j + d)) (by omega) (fun d hd => by
      obtain ⟨a1, a2, a3⟩ := qf_mk_of (s := false) (k := j + d) hc2 (by omega)
      obtain ⟨b1, b2, b3⟩ := qf_mk_of (s := false) (k := j + 0) hc2 (by omega)
      exact ⟨a1, by rw [a2, b2], by rw [a3, b3, Nat.add_zero, Nat.pow_add, Nat.mul_assoc]⟩)
    rw [show j + (1074 - j) = 1074 by omega] at h2
    exact h2
  · rw [qi_int (by omega) (by omega)]
    have h2 := qf_scDn (w := w) (I := I) (L := L) (D := D) (R := R) (T := j - 1074) (Y := fun d => qf_mk false c (j - d)) (by omega) (by omega) (fun d hd => by
      obtain ⟨a1, a2, a3⟩ := qf_mk_of (s := false) (k := j - d) hc2 (by omega)
      obtain ⟨b1, b2, b3⟩ := qf_mk_of (s := false) (k := j - 0) hc2 (by omega)
      exact ⟨a1, by rw [a2, b2], by rw [a3, b3, Nat.mul_assoc, ← Nat.pow_add, show j - d + d = j - 0 by omega]⟩)
    rw [show j - (j - 1074) = 1074 by omega] at h2
    exact h2
theorem qf_enc {fr bias off c k : Nat} (hfr : fr ≤ 52) (hrel : fr + off + bias = 1075) (hc0 : 0 < c) (hc : c < 2 ^ (fr + 1)) (hk : k + off ≤ 2045) (hn : k = 0 ∨ 2 ^ fr ≤ c) (h51 : 51 ≤ fr + off) (hsh : (((Int32.toInt64 (nI fr)) &&& 63).toBitVec.smod 64).toNat = fr) :
    fX8_encoded w I L D R (qf_mk false c (k + off)) (nI fr) (nI bias) = some (nL (k * 2 ^ fr + c), I, L, D, R) := by
  have hp1 : 2 ^ (fr + 1) ≤ 2 ^ 53 := Nat.pow_le_pow_right (by decide) (by omega)
  have hc53 : c < 2 ^ 53 := Nat.lt_of_lt_of_le hc hp1
  obtain ⟨z1, z2, z3⟩ := qf_mk_of (s := false) hc53 hk
  have hZ : 0 < qf_Z (qf_mk false c (k + off)) := by rw [z3]; exact Nat.mul_pos hc0 (Nat.two_pow_pos _)
  unfold fX8_encoded
  have h0 : ¬ Op.cmpValue (FP.dcmp (qf_mk false c (k + off)) 0) .l = 0 := by
    rw [qk_eq z1.N qf_N0, qk_0, (qk_pos z1.N z2).1]
    intro q
    have : qf_mk false c (k + off) = 0 := UInt64.toNat_inj.mp (by show _ = 0; omega)
    rw [this] at hZ
    revert hZ
    decide +kernel
  rw [if_neg h0, fx_isEndless z1.N]
  have hE : qf_E (qf_mk false c (k + off)) = false := by
    have := (qf_F_iff _).mp z1
    unfold qf_E
    exact decide_eq_false (by omega)
  rw [hE]
  show (qc_bd (fX8_powerOf w I L D R (qf_mk false c (k + off))) fun r4 I4 L4 D4 R4 => _) = _
  have hl : c ≠ 0 := by omega
  have hlog : 2 ^ Nat.log2 c ≤ c ∧ c < 2 ^ (Nat.log2 c + 1) := ⟨Nat.log2_self_le hl, Nat.lt_log2_self⟩
  have hlb : Nat.log2 c ≤ fr := by
    have := (Nat.pow_lt_pow_iff_right (a := 2) (by decide)).mp (Nat.lt_of_le_of_lt hlog.1 hc)
    omega
  rw [qf_po (b := Nat.log2 c + (k + off)) hc53 hk (by rw [Nat.pow_add]; exact Nat.mul_le_mul_right _ hlog.1) (by rw [show Nat.log2 c + (k + off) + 1 = Nat.log2 c + 1 + (k + off) by omega, Nat.pow_add 2 (Nat.log2 c + 1)]; exact Nat.mul_lt_mul_of_pos_right hlog.2 (Nat.two_pow_pos _)) (by omega)]
  show (qc_bd (fJ9_max_7cf53 w I L D R (nI (max (Nat.log2 c + (k + off)) 51) - nI 1074) (1 - nI bias)) fun r5 I5 L5 D5 R5 => _) = _
  have e1 : (1 : Int32) - nI bias = nI (fr + off) - nI 1074 := qi_s2 1 bias (fr + off) 1074 (by omega)
  rw [e1, qf_max (nI (fr + (k + off)) - nI 1074) ?_]
  · show (qc_bd (fX8_scaled w I L D R (qf_mk false c (k + off)) (nI fr - (nI (fr + (k + off)) - nI 1074))) fun r6 I6 L6 D6 R6 => _) = _
    have e2 : nI fr - (nI (fr + (k + off)) - nI 1074) = nI 1074 - nI (k + off) := by
      apply Int32.toInt_inj.mp
      rw [qi_dif (by omega) (by omega), Int32.toInt_sub, qi_dif (by omega) (by omega), nI_toInt (by omega)]
      rw [show ((fr : Int) - (((fr + (k + off) : Nat) : Int) - ((1074 : Nat) : Int))) = ((1074 : Nat) : Int) - ((k + off : Nat) : Int) by omega]
      exact Int.bmod_eq_of_le (by omega) (by omega)
    rw [e2, qf_sc2 hc53 hk]
    show some (((Int32.toInt64 (nI (fr + (k + off)) - nI 1074 + nI bias - 1)) <<< (Int32.toInt64 (nI fr) &&& 63)) + FP.d2l (qf_mk false c 1074), I, L, D, R) = _
    have e3 : nI (fr + (k + off)) - nI 1074 + nI bias - 1 = nI k := by
      apply Int32.toInt_inj.mp
      rw [Int32.toInt_sub, Int32.toInt_add, qi_dif (by omega) (by omega), nI_toInt (by omega), nI_toInt (by omega), show (1 : Int32).toInt = 1 from rfl]
      rw [show (((fr + (k + off) : Nat) : Int) - ((1074 : Nat) : Int) + (bias : Int)) = ((k + 1 : Nat) : Int) by omega, Int.bmod_eq_of_le (n := ((k + 1 : Nat) : Int)) (by omega) (by omega), show ((k + 1 : Nat) : Int) - 1 = (k : Int) by omega]
      exact Int.bmod_eq_of_le (by omega) (by omega)
    rw [e3, nI_L (by omega), qi_shl hsh, qf_d2l hc53, nL_add]
  · rcases hn with rfl | hn
    · by_cases h9 : Nat.log2 c = fr
      · exact Or.inl ⟨by rw [h9, Int32.le_iff_toInt_le, qi_dif (by omega) (by omega), qi_dif (by omega) (by omega)]; omega, by rw [h9, show max (fr + (0 + off)) 51 = fr + (0 + off) by omega]⟩
      · exact Or.inr ⟨by rw [Int32.le_iff_toInt_le, qi_dif (by omega) (by omega), qi_dif (by omega) (by omega)]; omega, by rw [Nat.zero_add]⟩
    · have h9 : Nat.log2 c = fr := by
        have := (Nat.pow_lt_pow_iff_right (a := 2) (by decide)).mp (Nat.lt_of_le_of_lt hn hlog.2)
        omega
      exact Or.inl ⟨by rw [h9, Int32.le_iff_toInt_le, qi_dif (by omega) (by omega), qi_dif (by omega) (by omega)]; omega, by rw [h9, show max (fr + (k + off)) 51 = fr + (k + off) by omega]⟩
theorem qf_pos_mk {x : UInt64} (hx : x.toNat < 9218868437227405312) (h0 : 0 < x.toNat) : ∃ c k, 0 < c ∧ c < 2 ^ 53 ∧ k ≤ 2045 ∧ (k = 0 ∨ 2 ^ 52 ≤ c) ∧ x.toNat = k * 2 ^ 52 + c ∧ x = qf_mk false c k := by
  by_cases h : x.toNat < 2 ^ 52
  · refine ⟨x.toNat, 0, h0, by omega, by omega, Or.inl rfl, by omega, ?_⟩
    exact UInt64.toNat_inj.mp (by rw [qf_mk_bits (by omega) (by omega) (Or.inl rfl)]; omega)
  · refine ⟨x.toNat % 2 ^ 52 + 2 ^ 52, x.toNat / 2 ^ 52 - 1, by omega, by omega, by omega, Or.inr (by omega), by omega, ?_⟩
    exact UInt64.toNat_inj.mp (by rw [qf_mk_bits (by omega) (by omega) (Or.inr (by omega))]; omega)
theorem qf_mag {x : UInt64} (h : qf_N x) : (if qf_M x = true then FP.dneg x else x).toNat = x.toNat % 2 ^ 63 := by
  have hx := x.toNat_lt
  unfold qf_M
  by_cases q : 2 ^ 63 ≤ x.toNat
  · rw [decide_eq_true q, if_pos rfl, qf_neg h, if_pos q]
    omega
  · rw [decide_eq_false q, if_neg (by decide)]
    omega
theorem qf_mag_N {x : UInt64} (h : qf_N x) : qf_N (if qf_M x = true then FP.dneg x else x) := by
  split
  · exact qf_neg_N h
  · exact h
theorem qf_enc64 {y : UInt64} (hN : qf_N y) (hy : y.toNat < 2 ^ 63) : fX8_encoded w I L D R y 52 1023 = some (nL y.toNat, I, L, D, R) := by
  have hN2 := (qf_N_iff _).mp hN
  by_cases h0 : y.toNat = 0
  · rw [show y = 0 from UInt64.toNat_inj.mp (by rw [h0]; rfl)]
    unfold fX8_encoded
    rw [if_pos (by decide +kernel)]
    rfl
  · by_cases h1 : y.toNat = 9218868437227405312
    · rw [show y = 9218868437227405312 from UInt64.toNat_inj.mp (by rw [h1]; rfl)]
      unfold fX8_encoded
      rw [if_neg (by decide +kernel), fx_isEndless (by rw [qf_N_iff]; decide)]
      rw [show qf_E 9218868437227405312 = true by decide +kernel]
      show some _ = _
      congr 2
    · obtain ⟨c, k, a1, a2, a3, a4, a5, a6⟩ := qf_pos_mk (x := y) (by omega) (by omega)
      have := qf_enc (w := w) (I := I) (L := L) (D := D) (R := R) (fr := 52) (bias := 1023) (off := 0) (c := c) (k := k) (by decide) (by decide) a1 a2 (by omega) a4 (by decide) (by decide)
      rw [a5, a6]
      exact this
theorem nL_toNat (x : UInt64) : nL x.toNat = x.toInt64 := by
  unfold nL
  congr 1
  exact UInt64.ofNat_toNat
theorem fx_bitsOfDouble {x : UInt64} (h : qf_N x) : fX8_bitsOfDouble w I L D R x = some (x.toInt64, I, L, D, R) := by
  have hx := x.toNat_lt
  have hN2 := (qf_N_iff _).mp h
  unfold fX8_bitsOfDouble
  rw [fx_magnitude h]
  show (qc_bd (fX8_encoded w I L D R (if qf_M x = true then FP.dneg x else x) 52 1023) fun r2 I2 L2 D2 R2 => _) = _
  rw [qf_enc64 (qf_mag_N h) (by rw [qf_mag h]; omega), qf_mag h]
  show (qc_bd (fX8_isMinus w I L D R x) fun r3 I3 L3 D3 R3 => _) = _
  rw [fx_isMinus h]
  show (if qf_M x = true then some (nL (x.toNat % 2 ^ 63) ||| -9223372036854775808, I, L, D, R) else some (nL (x.toNat % 2 ^ 63), I, L, D, R)) = _
  unfold qf_M
  by_cases q : 2 ^ 63 ≤ x.toNat
  · rw [decide_eq_true q, if_pos rfl]
    congr 2
    show ((UInt64.ofNat (x.toNat % 2 ^ 63)) ||| (UInt64.ofNat (2 ^ 63))).toInt64 = _
    congr 1
    apply UInt64.toNat_inj.mp
    rw [UInt64.toNat_or, qf_ofn (by omega), qf_ofn (by omega), Nat.or_comm, show x.toNat % 2 ^ 63 = x.toNat - 2 ^ 63 by omega]
    have := Nat.two_pow_add_eq_or_of_lt (i := 63) (b := x.toNat - 2 ^ 63) (by omega) 1
    rw [Nat.mul_one] at this
    rw [← this]
    omega
  · rw [decide_eq_false q, if_neg (by decide), Nat.mod_eq_of_lt (by omega), nL_toNat]
theorem qf_enc32 {a : UInt32} {y : UInt64} (hN : qf_N32 a) (hyN : qf_N y) (hS : qf_S y = false) (hz : qf_Z y = qf_Z (FP.f2d a)) : fX8_encoded w I L D R y 23 127 = some (nL (a.toNat % 2 ^ 31), I, L, D, R) := by
  have hN2 := (qf_N32_iff _).mp hN
  have ha := a.toNat_lt
  by_cases h1 : a.toNat % 2 ^ 31 = 2139095040
  · have hyi : y = 9218868437227405312 := by
      refine qf_eq hyN (by rw [qf_N_iff]; decide) (by rw [hS]; decide +kernel) ?_
      rw [hz]
      have h9 := qf_f2d_inf h1
      unfold qf_Z
      rw [FP.Core.zmag_bits (qf_f2d_N hN), FP.Core.zmag_bits (by decide +kernel), h9]
      congr 1
      split <;> rfl
    rw [hyi, h1]
    unfold fX8_encoded
    rw [if_neg (by decide +kernel), fx_isEndless (by rw [qf_N_iff]; decide)]
    rw [show qf_E 9218868437227405312 = true by decide +kernel]
    show some _ = _
    congr 2
  · obtain ⟨f1, f2, f3⟩ := qf_f2d_fin (a := a) (by omega)
    have hone : ∀ c k, 0 < c → c < 2 ^ 24 → k + 925 ≤ 2045 → (k = 0 ∨ 2 ^ 23 ≤ c) → a.toNat % 2 ^ 31 = k * 2 ^ 23 + c → FP.Core.unitsOf FP.Core.b32 (a.toNat % 2 ^ 31) = c * 2 ^ k → fX8_encoded w I L D R y 23 127 = some (nL (a.toNat % 2 ^ 31), I, L, D, R) := by
      intro c k a1 a2 a3 a4 a5 a6
      obtain ⟨m1, m2, m3⟩ := qf_mk_of (s := false) (c := c) (k := k + 925) (by omega) (by omega)
      have hy : y = qf_mk false c (k + 925) := qf_eq hyN m1.N (by rw [hS, m2]) (by rw [hz, f3, a6, m3, Nat.mul_assoc, ← Nat.pow_add])
      have := qf_enc (w := w) (I := I) (L := L) (D := D) (R := R) (fr := 23) (bias := 127) (off := 925) (c := c) (k := k) (by decide) (by decide) a1 a2 a3 a4 (by decide) (by decide)
      rw [a5, hy]
      exact this
    generalize hm : a.toNat % 2 ^ 31 = m at *
    by_cases h0 : m = 0
    · have hy0 : y = 0 := by
        refine qf_eq hyN qf_N0 (by rw [hS]; decide +kernel) ?_
        rw [hz, f3, h0]
        decide +kernel
      rw [hy0, h0]
      unfold fX8_encoded
      rw [if_pos (by decide +kernel)]
      rfl
    · unfold FP.Core.unitsOf at hone
      rw [FP.Core.tails_b32] at hone
      by_cases h2 : m < 2 ^ 23
      · exact hone m 0 (by omega) (by omega) (by omega) (Or.inl rfl) (by omega) (by rw [if_pos h2, Nat.pow_zero, Nat.mul_one])
      · exact hone (2 ^ 23 + m % 2 ^ 23) (m / 2 ^ 23 - 1) (by omega) (by omega) (by omega) (Or.inr (by omega)) (by omega) (by rw [if_neg h2])
theorem qf_SM {x : UInt64} (h : qf_N x) : qf_S x = qf_M x := by
  unfold qf_S qf_M
  exact FP.Core.sgn_bits h
theorem qf_mag_S {x : UInt64} (h : qf_N x) : qf_S (if qf_M x = true then FP.dneg x else x) = false := by
  have := qf_mag h
  rw [qf_SM (qf_mag_N h)]
  unfold qf_M
  exact decide_eq_false (by have := x.toNat_lt; have h2 := qf_mag h; unfold qf_M at h2; omega)
theorem qf_mag_Z {x : UInt64} (h : qf_N x) : qf_Z (if qf_M x = true then FP.dneg x else x) = qf_Z x := by
  unfold qf_Z
  rw [FP.Core.zmag_bits (qf_mag_N h), FP.Core.zmag_bits h, qf_mag h, Nat.mod_mod]
theorem qf_f2d_M {a : UInt32} (hN : qf_N32 a) : qf_M (FP.f2d a) = decide (2 ^ 31 ≤ a.toNat) := by
  have hN2 := (qf_N32_iff _).mp hN
  by_cases h : a.toNat % 2 ^ 31 = 2139095040
  · unfold qf_M
    rw [qf_f2d_inf h]
    congr 1
    apply propext
    split <;> omega
  · rw [← qf_SM (qf_f2d_N hN)]
    exact (qf_f2d_fin (by omega)).2.1
theorem nL_I {n : Nat} (h : n < 2 ^ 31) : Int64.toInt32 (nL n) = nI n := by
  apply Int32.toInt_inj.mp
  rw [Int64.toInt_toInt32, nL_toInt (by omega), nI_toInt h]
  exact Int.bmod_eq_of_le (by omega) (by omega)
theorem fx_bitsOfFloat {a : UInt32} (hN : qf_N32 a) : fX8_bitsOfFloat w I L D R (FP.f2d a) = some (Int32.toInt64 a.toInt32, I, L, D, R) := by
  have h := qf_f2d_N hN
  have ha := a.toNat_lt
  unfold fX8_bitsOfFloat
  rw [fx_magnitude h]
  show (qc_bd (fX8_encoded w I L D R (if qf_M (FP.f2d a) = true then FP.dneg (FP.f2d a) else FP.f2d a) 23 127) fun r2 I2 L2 D2 R2 => _) = _
  rw [qf_enc32 hN (qf_mag_N h) (qf_mag_S h) (qf_mag_Z h)]
  show (qc_bd (fX8_isMinus w I L D R (FP.f2d a)) fun r3 I3 L3 D3 R3 => _) = _
  rw [fx_isMinus h]
  show (if qf_M (FP.f2d a) = true then some (Int32.toInt64 (Int64.toInt32 (nL (a.toNat % 2 ^ 31)) ||| -2147483648), I, L, D, R) else some (Int32.toInt64 (Int64.toInt32 (nL (a.toNat % 2 ^ 31))), I, L, D, R)) = _
  rw [qf_f2d_M hN, nL_I (by omega)]
  by_cases q : 2 ^ 31 ≤ a.toNat
  · rw [decide_eq_true q, if_pos rfl]
    congr 3
    show ((UInt32.ofNat (a.toNat % 2 ^ 31)) ||| (UInt32.ofNat (2 ^ 31))).toInt32 = _
    congr 1
    apply UInt32.toNat_inj.mp
    rw [UInt32.toNat_or, UInt32.toNat_ofNat_of_lt' (by show _ < 2 ^ 32; omega), UInt32.toNat_ofNat_of_lt' (by show _ < 2 ^ 32; omega), Nat.or_comm, show a.toNat % 2 ^ 31 = a.toNat - 2 ^ 31 by omega]
    have := Nat.two_pow_add_eq_or_of_lt (i := 31) (b := a.toNat - 2 ^ 31) (by omega) 1
    rw [Nat.mul_one] at this
    rw [← this]
    omega
  · rw [decide_eq_false q, if_neg (by decide), Nat.mod_eq_of_lt (by omega)]
    congr 3
    show (UInt32.ofNat a.toNat).toInt32 = _
    congr 1
    exact UInt32.ofNat_toNat
end
