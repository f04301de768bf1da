/-! sums of doubles that are exact -/
abbrev qf_V (x : UInt64) : Int := FP.Core.signed (qf_S x) (qf_Z x)
theorem qf_sgn0 (s : Bool) (n : Nat) : FP.Core.signed s n = if s = true then -(n : Int) else (n : Int) := rfl
theorem qf_sum {a b y : UInt64} (ha : qf_F a) (hb : qf_F b) (hy : qf_F y) (hz : qf_V y = qf_V a + qf_V b) (h0 : qf_Z y = 0 → qf_S y = (qf_S a && qf_S b)) : FP.dadd a b = y := by
  obtain ⟨c, k, hv, h1, h2, h3, hza⟩ := qf_fin ha
  obtain ⟨d, j, hw, g1, g2, g3, hzb⟩ := qf_fin hb
  apply qf_val hy.N
  show FP.Core.val64 (FP.Core.dadd a b) = _
  rw [FP.Core.val64_dadd, hv, hw]
  show FP.Core.roundRatio FP.Core.b64 (FP.Core.sumSign (qf_S a) (qf_S b) (FP.Core.sumUnits (qf_S a) c ((k : Int) - 1074) (qf_S b) d ((j : Int) - 1074) (min ((k : Int) - 1074) ((j : Int) - 1074)))) (FP.Core.sumUnits (qf_S a) c ((k : Int) - 1074) (qf_S b) d ((j : Int) - 1074) (min ((k : Int) - 1074) ((j : Int) - 1074))).natAbs 1 (min ((k : Int) - 1074) ((j : Int) - 1074)) = _
  have hm : min ((k : Int) - 1074) ((j : Int) - 1074) = ((min k j : Nat) : Int) - 1074 := by omega
  rw [hm]
  have hu : FP.Core.sumUnits (qf_S a) c ((k : Int) - 1074) (qf_S b) d ((j : Int) - 1074) (((min k j : Nat) : Int) - 1074) * ((2 ^ (min k j) : Nat) : Int) = qf_V y := by
    rw [hz]
    unfold FP.Core.sumUnits qf_V FP.Core.inUnits
    rw [show ((k : Int) - 1074 - (((min k j : Nat) : Int) - 1074)).toNat = k - min k j by omega, show ((j : Int) - 1074 - (((min k j : Nat) : Int) - 1074)).toNat = j - min k j by omega, Int.add_mul]
    have e1 : ∀ (s : Bool) (x p m z : Nat), x * 2 ^ p * 2 ^ m = z → FP.Core.signed s (x * 2 ^ p) * ((2 ^ m : Nat) : Int) = FP.Core.signed s z := by
      intro s x p m z hq
      rw [← hq, qf_sgn0, qf_sgn0]
      cases s
      · simp only [Bool.false_eq_true, if_false]
        exact (Int.natCast_mul _ _).symm
      · simp only [if_true]
        rw [Int.neg_mul, ← Int.natCast_mul]
    rw [e1 _ c _ _ (qf_Z a) (by rw [hza, Nat.mul_assoc, ← Nat.pow_add, show k - min k j + min k j = k by omega]), e1 _ d _ _ (qf_Z b) (by rw [hzb, Nat.mul_assoc, ← Nat.pow_add, show j - min k j + min k j = j by omega])]
  generalize FP.Core.sumUnits (qf_S a) c ((k : Int) - 1074) (qf_S b) d ((j : Int) - 1074) (((min k j : Nat) : Int) - 1074) = u at hu
  have hp : 0 < 2 ^ (min k j) := Nat.two_pow_pos _
  have hab : u.natAbs * 2 ^ (min k j) = qf_Z y := by
    have h5 := congrArg Int.natAbs hu
    rw [Int.natAbs_mul, Int.natAbs_natCast] at h5
    rw [h5]
    unfold qf_V
    rw [qf_sgn0]
    split <;> omega
  refine qf_round (by decide) hy ?_ ?_
  · unfold FP.Core.sumSign
    by_cases h8 : u = 0
    · rw [if_pos h8]
      exact h0 (by rw [← hab, h8]; exact Nat.zero_mul _)
    · rw [if_neg h8]
      have hzy : qf_Z y ≠ 0 := by
        rw [← hab]
        exact Nat.ne_of_gt (Nat.mul_pos (Int.natAbs_pos.mpr h8) hp)
      have hp2 : (0 : Int) < ((2 ^ (min k j) : Nat) : Int) := by omega
      cases hs : qf_S y
      · symm
        apply decide_eq_false
        intro hlt
        have := Int.mul_neg_of_neg_of_pos hlt hp2
        rw [hu] at this
        unfold qf_V at this
        rw [hs, qf_sgn0] at this
        simp only [Bool.false_eq_true, if_false] at this
        omega
      · symm
        apply decide_eq_true
        rcases Int.lt_or_le u 0 with h9 | h9
        · exact h9
        · have := Int.mul_nonneg h9 (Int.le_of_lt hp2)
          rw [hu] at this
          unfold qf_V at this
          rw [hs, qf_sgn0] at this
          simp only [if_true] at this
          omega
  · rw [show (((min k j : Nat) : Int) - 1074 + 1074).toNat = min k j by omega, show (-1074 - (((min k j : Nat) : Int) - 1074)).toNat = 0 by omega, hab]
    omega
theorem qf_neg_S {x : UInt64} (h : qf_N x) : qf_S (FP.dneg x) = !qf_S x := by
  rw [qf_SM (qf_neg_N h), qf_SM h]
  exact qf_M_neg h
theorem qf_neg_Z {x : UInt64} (h : qf_N x) : qf_Z (FP.dneg x) = qf_Z x := by
  have hx := x.toNat_lt
  unfold qf_Z
  rw [FP.Core.zmag_bits (qf_neg_N h), FP.Core.zmag_bits h, qf_neg h]
  congr 1
  split <;> omega
theorem qf_neg_F {x : UInt64} (h : qf_F x) : qf_F (FP.dneg x) := by
  have h1 := qf_neg h.N
  rw [qf_F_iff] at h ⊢
  rw [h1]
  split <;> omega
theorem qf_dif {a b y : UInt64} (ha : qf_F a) (hb : qf_F b) (hy : qf_F y) (hz : qf_V y = qf_V a - qf_V b) (h0 : qf_Z y = 0 → qf_S y = (qf_S a && !qf_S b)) : FP.dsub a b = y := by
  have e : FP.dsub a b = FP.dadd a (FP.Core.dneg b) := FP.Core.dsub_eq a b
  have e2 : FP.Core.dneg b = FP.dneg b := (FP.dneg_core ((FP.Core.notNaN_iff b).mpr hb.N)).symm
  rw [e, e2]
  refine qf_sum ha (qf_neg_F hb) hy ?_ (by rw [qf_neg_S hb.N]; exact h0)
  rw [hz]
  unfold qf_V
  rw [qf_neg_S hb.N, qf_neg_Z hb.N]
  cases qf_S b
  · rw [qf_sgn0 (!false), qf_sgn0 false]
    simp only [Bool.not_false, if_true, Bool.false_eq_true, if_false]
    omega
  · rw [qf_sgn0 (!true), qf_sgn0 true]
    simp only [Bool.not_true, if_true, Bool.false_eq_true, if_false]
    omega
/-- the magnitudes that doubles have -/
def qf_R (z : Nat) : Prop := ∃ c k, c < 2 ^ 53 ∧ k ≤ 2045 ∧ z = c * 2 ^ k
theorem qf_R_of {z : Nat} (h : qf_R z) (s : Bool) : ∃ y, qf_F y ∧ qf_S y = s ∧ qf_Z y = z := by
  obtain ⟨c, k, h1, h2, rfl⟩ := h
  exact ⟨qf_mk s c k, qf_mk_of h1 h2⟩
theorem qf_F_R {x : UInt64} (h : qf_F x) : qf_R (qf_Z x) := by
  obtain ⟨c, k, _, h1, h2, _, h3⟩ := qf_fin h
  exact ⟨c, k, h1, h2, h3⟩
theorem qf_R_lt {z : Nat} (h : qf_R z) : z < 2 ^ 2098 := by
  obtain ⟨c, k, h1, h2, rfl⟩ := h
  have h3 : c * 2 ^ k < 2 ^ 53 * 2 ^ k := Nat.mul_lt_mul_of_pos_right h1 (Nat.two_pow_pos k)
  rw [← Nat.pow_add] at h3
  exact Nat.lt_of_lt_of_le h3 (Nat.pow_le_pow_right (by decide) (by omega))
theorem qf_R_mk {c k : Nat} (h1 : c < 2 ^ 53) (h2 : c * 2 ^ k < 2 ^ 2098) : qf_R (c * 2 ^ k) := by
  by_cases hk : k ≤ 2045
  · exact ⟨c, k, h1, hk, rfl⟩
  · obtain ⟨i, rfl⟩ : ∃ i, k = 2045 + i := ⟨k - 2045, by omega⟩
    refine ⟨c * 2 ^ i, 2045, ?_, Nat.le_refl _, ?_⟩
    · rw [Nat.pow_add, Nat.mul_comm (2 ^ 2045), ← Nat.mul_assoc, show 2098 = 53 + 2045 from rfl, Nat.pow_add] at h2
      exact Nat.lt_of_mul_lt_mul_right h2
    · rw [Nat.pow_add, Nat.mul_comm (2 ^ 2045), ← Nat.mul_assoc]
theorem qf_R2 {z : Nat} (h : qf_R z) (h2 : 2 * z < 2 ^ 2098) : qf_R (2 * z) := by
  obtain ⟨c, k, h1, h3, rfl⟩ := h
  have e : 2 * (c * 2 ^ k) = c * 2 ^ (k + 1) := by rw [Nat.pow_succ]; simp only [Nat.mul_comm, Nat.mul_left_comm]
  rw [e] at h2 ⊢
  exact qf_R_mk h1 h2
