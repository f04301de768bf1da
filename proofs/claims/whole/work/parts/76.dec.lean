/-! bits of a double, and the double that they say -/
theorem qi_and32 (U : UInt64) (k : Nat) (hk : k ≤ 31) : Int64.toInt32 (U.toInt64 &&& (UInt64.ofNat (2 ^ k - 1)).toInt64) = nI (U.toNat % 2 ^ k) := by
  have hp : 2 ^ k ≤ 2 ^ 31 := Nat.pow_le_pow_right (by decide) hk
  have h1 : (U &&& UInt64.ofNat (2 ^ k - 1)).toNat = U.toNat % 2 ^ k := by
    rw [UInt64.toNat_and, qf_ofn (by omega), Nat.and_two_pow_sub_one_eq_mod]
  have h2 : U.toInt64 &&& (UInt64.ofNat (2 ^ k - 1)).toInt64 = (U &&& UInt64.ofNat (2 ^ k - 1)).toInt64 := rfl
  rw [h2]
  have h3 : U.toNat % 2 ^ k < 2 ^ k := Nat.mod_lt _ (Nat.two_pow_pos k)
  generalize U &&& UInt64.ofNat (2 ^ k - 1) = V at h1
  apply Int32.toInt_inj.mp
  rw [nI_toInt (by omega), ← h1]
  show (V.toInt64.toInt32).toInt = _
  rw [Int64.toInt_toInt32]
  have h4 : V.toInt64.toInt = (V.toNat : Int) := by
    show (V.toBitVec).toInt = _
    rw [BitVec.toInt_eq_toNat_of_lt]
    · rfl
    · show 2 * V.toNat < _
      omega
  rw [h4]
  exact Int.bmod_eq_of_le (by omega) (by omega)
/-- a long that is no less than 0, by its number -/
def nL (n : Nat) : Int64 := (UInt64.ofNat n).toInt64
theorem nL_toInt {n : Nat} (h : n < 2 ^ 63) : (nL n).toInt = (n : Int) := by
  show ((UInt64.ofNat n).toBitVec).toInt = _
  have h1 : (UInt64.ofNat n).toBitVec.toNat = n := qf_ofn (by omega)
  rw [BitVec.toInt_eq_toNat_of_lt (by rw [h1]; omega), h1]
theorem qi_and64 (U : UInt64) (k : Nat) (hk : k ≤ 62) : U.toInt64 &&& nL (2 ^ k - 1) = nL (U.toNat % 2 ^ k) := by
  have hp : 2 ^ k ≤ 2 ^ 62 := Nat.pow_le_pow_right (by decide) hk
  have h3 : U.toNat % 2 ^ k < 2 ^ k := Nat.mod_lt _ (Nat.two_pow_pos k)
  unfold nL
  have h2 : U.toInt64 &&& (UInt64.ofNat (2 ^ k - 1)).toInt64 = (U &&& UInt64.ofNat (2 ^ k - 1)).toInt64 := rfl
  rw [h2]
  congr 1
  apply UInt64.toNat_inj.mp
  rw [UInt64.toNat_and, qf_ofn (by omega), Nat.and_two_pow_sub_one_eq_mod, qf_ofn (by omega)]
theorem nL_add (a b : Nat) : nL a + nL b = nL (a + b) := by
  unfold nL
  show (UInt64.ofNat a + UInt64.ofNat b).toInt64 = _
  congr 1
  exact (UInt64.ofNat_add a b).symm
/-- a whole number as a double -/
theorem qf_l2d {c : Nat} (h : c < 2 ^ 53) : FP.l2d (nL c) = qf_mk false c 1074 := by
  have e : (nL c).toInt = (c : Int) := nL_toInt (by omega)
  show UInt64.ofNat (FP.Core.fromInt FP.Core.b64 (nL c).toInt) = _
  rw [e]
  unfold qf_mk FP.Core.of64 FP.Core.fromInt FP.Core.ofInt
  rw [show decide ((c : Int) < 0) = false from decide_eq_false (by omega), show ((c : Int).natAbs) = c from rfl]
  rfl
theorem qf_mk_bits {c k : Nat} (hc : c < 2 ^ 53) (hk : k ≤ 2045) (h : k = 0 ∨ 2 ^ 52 ≤ c) : (qf_mk false c k).toNat = k * 2 ^ 52 + c := by
  obtain ⟨h1, h2, h3⟩ := qf_mk_of (s := false) hc hk
  have hn : (UInt64.ofNat (k * 2 ^ 52 + c)).toNat = k * 2 ^ 52 + c := qf_ofn (by omega)
  have hN : qf_N (UInt64.ofNat (k * 2 ^ 52 + c)) := by
    rw [qf_N_iff, hn]
    omega
  have : qf_mk false c k = UInt64.ofNat (k * 2 ^ 52 + c) := by
    refine qf_eq h1.N hN ?_ ?_
    · rw [h2]
      unfold qf_S
      rw [FP.Core.sgn_bits hN, hn]
      exact (decide_eq_false (by omega)).symm
    · rw [h3]
      unfold qf_Z
      rw [FP.Core.zmag_bits hN, hn, Nat.mod_eq_of_lt (by omega)]
      unfold FP.Core.unitsOf
      rw [FP.Core.tails_b64]
      rcases h with rfl | h
      · by_cases hc2 : c < 2 ^ 52
        · rw [if_pos (by omega)]
          omega
        · rw [if_neg (by omega), show (0 * 2 ^ 52 + c) / 2 ^ 52 = 1 by omega, show (0 * 2 ^ 52 + c) % 2 ^ 52 = c - 2 ^ 52 by omega]
          omega
      · rw [if_neg (by omega), show (k * 2 ^ 52 + c) / 2 ^ 52 = k + 1 by omega, show (k * 2 ^ 52 + c) % 2 ^ 52 = c - 2 ^ 52 by omega, show 2 ^ 52 + (c - 2 ^ 52) = c by omega, Nat.add_sub_cancel]
  rw [this, hn]
section
variable {w : qcW} {I : qTI} {L : qTL} {D : qTD} {R : qTR}
theorem qi_int {a b : Nat} (h : b ≤ a) (ha : a < 2 ^ 31) : nI b - nI a = -nI (a - b) := by
  rw [← qi_sub h, Int32.neg_sub]
/-- a whole number by a power of two -/
theorem qf_sc {c k : Nat} (hc : c < 2 ^ 53) (hk : k ≤ 2045) : fX8_scaled w I L D R (qf_mk false c 1074) (nI k - nI 1074) = some (qf_mk false c k, I, L, D, R) := by
  by_cases h : 1074 ≤ k
  · rw [qi_sub h]
    have h2 := qf_scUp (w := w) (I := I) (L := L) (D := D) (R := R) (T := k - 1074) (Y := fun d => qf_mk false c (1074 + d)) (by omega) (fun d hd => by
      obtain ⟨a1, a2, a3⟩ := qf_mk_of (s := false) (k := 1074 + d) hc (by omega)
      obtain ⟨b1, b2, b3⟩ := qf_mk_of (s := false) (k := 1074 + 0) hc (by omega)
      exact ⟨a1, by rw [a2, b2], by rw [a3, b3, Nat.add_zero, Nat.pow_add, Nat.mul_assoc]⟩)
    rw [show 1074 + (k - 1074) = k by omega] at h2
    exact h2
  · rw [qi_int (by omega) (by decide)]
    have h2 := qf_scDn (w := w) (I := I) (L := L) (D := D) (R := R) (T := 1074 - k) (Y := fun d => qf_mk false c (1074 - d)) (by omega) (by omega) (fun d hd => by
      obtain ⟨a1, a2, a3⟩ := qf_mk_of (s := false) (k := 1074 - d) hc (by omega)
      obtain ⟨b1, b2, b3⟩ := qf_mk_of (s := false) (k := 1074 - 0) hc (by omega)
      exact ⟨a1, by rw [a2, b2], by rw [a3, b3, Nat.mul_assoc, ← Nat.pow_add, show 1074 - d + d = 1074 - 0 by omega]⟩)
    rw [show 1074 - (1074 - k) = k by omega] at h2
    exact h2
end
