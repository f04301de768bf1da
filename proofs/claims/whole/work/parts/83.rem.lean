/-! what remains -/
theorem qf_pz {x : UInt64} (hx : qf_N x) (h : 0 < qk x) : qf_S x = false ∧ 0 < qf_Z x := by
  have hM := qf_M_gt h
  refine ⟨by rw [qf_SM hx]; exact hM, ?_⟩
  unfold qf_Z
  rw [FP.Core.zmag_bits hx]
  have h1 : 0 < x.toNat % 2 ^ 63 := by
    have := x.toNat_lt
    unfold qf_M at hM
    have hM2 := of_decide_eq_false hM
    rw [qk_S, if_neg hM2] at h
    omega
  rcases Nat.eq_zero_or_pos (FP.Core.unitsOf FP.Core.b64 (x.toNat % 2 ^ 63)) with h2 | h2
  · have := FP.Core.unitsOf_eq_zero.mp h2
    omega
  · exact h2
theorem qf_Zinf : FP.Core.unitsOf FP.Core.b64 9218868437227405312 = 2 ^ 2098 := by
  unfold FP.Core.unitsOf
  rw [FP.Core.tails_b64, if_neg (by decide), show (2 ^ 52 + 9218868437227405312 % 2 ^ 52) = 2 ^ 52 by decide, show 9218868437227405312 / 2 ^ 52 - 1 = 2046 by decide, ← Nat.pow_add]
theorem qf_F_of {x : UInt64} (hx : qf_N x) (h : qf_Z x < 2 ^ 2098) : qf_F x := by
  unfold qf_Z at h
  rw [FP.Core.zmag_bits hx, ← qf_Zinf, FP.Core.unitsOf_lt_iff] at h
  rw [qf_F_iff]
  exact h
/-- twice a double -/
theorem qf_dbl {s : UInt64} (hs : qf_F s) (h0 : qf_S s = false) : qf_N (FP.dadd s s) ∧ qf_S (FP.dadd s s) = false ∧ (2 * qf_Z s < 2 ^ 2098 → qf_F (FP.dadd s s) ∧ qf_Z (FP.dadd s s) = 2 * qf_Z s) ∧ (2 ^ 2098 ≤ 2 * qf_Z s → qf_Z (FP.dadd s s) = 2 ^ 2098) := by
  by_cases h : 2 * qf_Z s < 2 ^ 2098
  · obtain ⟨y, y1, y2, y3⟩ := qf_R_of (qf_R2 (qf_F_R hs) h) false
    have e : FP.dadd s s = y := qf_sum hs hs y1 (by unfold qf_V; rw [y2, y3, h0, qf_sgn0, qf_sgn0]; simp only [Bool.false_eq_true, if_false]; omega) (fun _ => by rw [y2, h0]; rfl)
    rw [e]
    exact ⟨y1.N, y2, fun _ => ⟨y1, y3⟩, fun q => absurd h (Nat.not_lt.mpr q)⟩
  · obtain ⟨c, k, hv, h1, h2, h3, hz⟩ := qf_fin hs
    rw [h0] at hv
    have hu : FP.Core.sumUnits false c ((k : Int) - 1074) false c ((k : Int) - 1074) ((k : Int) - 1074) = ((2 * c : Nat) : Int) := by
      unfold FP.Core.sumUnits FP.Core.inUnits
      rw [Int.sub_self, show (0 : Int).toNat = 0 from rfl, Nat.pow_zero, Nat.mul_one, qf_sgn0]
      simp only [Bool.false_eq_true, if_false]
      omega
    have hr : FP.Core.val64 (FP.dadd s s) = FP.Core.roundRatio FP.Core.b64 false (2 * c) 1 ((k : Int) - 1074) := by
      show FP.Core.val64 (FP.Core.dadd s s) = _
      rw [FP.Core.val64_dadd, hv]
      show FP.Core.roundRatio FP.Core.b64 (FP.Core.sumSign false false (FP.Core.sumUnits false c ((k : Int) - 1074) false c ((k : Int) - 1074) (min ((k : Int) - 1074) ((k : Int) - 1074)))) (FP.Core.sumUnits false c ((k : Int) - 1074) false c ((k : Int) - 1074) (min ((k : Int) - 1074) ((k : Int) - 1074))).natAbs 1 (min ((k : Int) - 1074) ((k : Int) - 1074)) = _
      rw [Int.min_self, hu, show ((2 * c : Nat) : Int).natAbs = 2 * c from rfl]
      congr 1
      unfold FP.Core.sumSign
      split
      · rfl
      · exact decide_eq_false (by omega)
    have hN : qf_N (FP.dadd s s) := by
      unfold qf_N
      rw [hr]
      exact FP.Core.roundRatio_ne_nan _ _ _ _ _
    have hS : qf_S (FP.dadd s s) = false := by
      unfold qf_S
      rw [hr]
      exact FP.Core.sgn_roundRatio _ _ _ _ _
    refine ⟨hN, hS, fun q => absurd q h, fun _ => ?_⟩
    have h6 := FP.Core.mag_ge FP.Core.good_b64 (n := (FP.dadd s s).toNat) (m := 9218868437227405312) (e0 := -1074) hr (by decide) (by decide) (by omega) (by decide) (by
      rw [qf_Zinf]
      unfold FP.Core.inUnits
      rw [FP.Core.qmin_b64, show ((-1074 : Int) - -1074).toNat = 0 from rfl, Nat.pow_zero, Nat.mul_one, Nat.mul_one, show ((k : Int) - 1074 - -1074).toNat = k by omega, Nat.mul_assoc, ← hz]
      exact Nat.not_lt.mp h)
    rw [FP.Core.mag_toNat64] at h6
    have h7 := (qf_N_iff _).mp hN
    unfold qf_Z
    rw [FP.Core.zmag_bits hN, show (FP.dadd s s).toNat % 2 ^ 63 = 9218868437227405312 by omega, qf_Zinf]
theorem qf_hf : FP.Core.val64 4602678819172646912 = .fin false (2 ^ 52) (-53) := by decide +kernel
theorem qf_half {s y : UInt64} (hs : qf_F s) (hy : qf_F y) (h1 : qf_S y = qf_S s) (h2 : qf_Z s = 2 * qf_Z y) : FP.dmul s 4602678819172646912 = y := by
  obtain ⟨c, k, hv, g1, g2, g3, hz⟩ := qf_fin hs
  apply qf_val hy.N
  show FP.Core.val64 (FP.Core.dmul s 4602678819172646912) = _
  rw [FP.Core.val64_dmul, qf_hf, hv]
  show FP.Core.roundRatio FP.Core.b64 (qf_S s != false) (c * 2 ^ 52) 1 ((k : Int) - 1074 + (-53)) = _
  rw [show (qf_S s != false) = qf_S s by cases qf_S s <;> rfl]
  refine qf_round (by decide) hy h1 ?_
  rw [Nat.mul_one]
  apply Nat.eq_of_mul_eq_mul_left (show 0 < 2 by decide)
  rw [← Nat.mul_assoc 2 (qf_Z y), ← h2, hz]
  by_cases hk : 53 ≤ k
  · rw [show (-1074 - ((k : Int) - 1074 + (-53))).toNat = 0 by omega, show ((k : Int) - 1074 + (-53) + 1074).toNat = k - 53 by omega, Nat.pow_zero, Nat.mul_one, Nat.mul_assoc, ← Nat.pow_add, Nat.mul_left_comm, ← Nat.pow_succ', show (52 + (k - 53)).succ = k by omega]
  · rw [show (-1074 - ((k : Int) - 1074 + (-53))).toNat = 53 - k by omega, show ((k : Int) - 1074 + (-53) + 1074).toNat = 0 by omega, Nat.pow_zero, Nat.mul_one, Nat.mul_assoc c, ← Nat.pow_add, show k + (53 - k) = 53 by omega, Nat.mul_left_comm]
theorem qf_half_N {s : UInt64} (hs : qf_F s) : qf_N (FP.dmul s 4602678819172646912) := by
  have h1 : FP.Core.DFin 4602678819172646912 := ⟨_, _, _, qf_hf⟩
  exact (FP.Core.notNaN_iff _).mp (FP.Core.dmul_out hs h1)
/-- a difference of magnitudes not far apart -/
theorem qf_ster {r s : UInt64} (hr : qf_F r) (hs : qf_F s) (h1 : qf_Z s ≤ qf_Z r) (h2 : qf_Z r < 2 * qf_Z s) : qf_R (qf_Z r - qf_Z s) := by
  obtain ⟨c, k, _, a1, a2, a3, a4⟩ := qf_fin hs
  obtain ⟨d, j, _, b1, b2, b3, b4⟩ := qf_fin hr
  have hkj : k ≤ j := by
    rcases Nat.lt_or_ge j k with h | h
    · exfalso
      have hc : 2 ^ 52 ≤ c := by
        rcases a3 with h5 | h5
        · omega
        · exact h5
      have h6 : d * 2 ^ j < 2 ^ 53 * 2 ^ j := Nat.mul_lt_mul_of_pos_right b1 (Nat.two_pow_pos j)
      have h7 : 2 ^ 52 * 2 ^ k ≤ c * 2 ^ k := Nat.mul_le_mul_right _ hc
      rw [← Nat.pow_add] at h6 h7
      have h8 : 2 ^ (53 + j) ≤ 2 ^ (52 + k) := Nat.pow_le_pow_right (by decide) (by omega)
      omega
    · exact h
  have e : qf_Z r - qf_Z s = (d * 2 ^ (j - k) - c) * 2 ^ k := by
    rw [a4, b4, Nat.sub_mul, Nat.mul_assoc, ← Nat.pow_add, show j - k + k = j by omega]
  have hlt : (d * 2 ^ (j - k) - c) * 2 ^ k < c * 2 ^ k := by
    rw [← e, ← a4]
    omega
  refine ⟨d * 2 ^ (j - k) - c, k, ?_, a2, e⟩
  have := Nat.lt_of_mul_lt_mul_right hlt
  omega
theorem qf_dsub {r s : UInt64} (hr : qf_F r) (hs : qf_F s) (sr : qf_S r = false) (ss : qf_S s = false) (h1 : qf_Z s ≤ qf_Z r) (h2 : qf_Z r < 2 * qf_Z s) : qf_F (FP.dsub r s) ∧ qf_S (FP.dsub r s) = false ∧ qf_Z (FP.dsub r s) = qf_Z r - qf_Z s := by
  obtain ⟨y, y1, y2, y3⟩ := qf_R_of (qf_ster hr hs h1 h2) false
  have e : FP.dsub r s = y := qf_dif hr hs y1 (by unfold qf_V; rw [y2, y3, sr, ss, qf_sgn0, qf_sgn0, qf_sgn0]; simp only [Bool.false_eq_true, if_false]; omega) (fun _ => by rw [y2, sr]; rfl)
  rw [e]
  exact ⟨y1, y2, y3⟩
theorem qc_gdt {α : Type} (x : Option α) : qc_gd true x = x := rfl
section
variable {w : qcW} {I : qTI} {L : qTL} {D : qTD} {R : qTR}
theorem qi_nlt {a b : Nat} (ha : a < 2 ^ 31) (hb : b < 2 ^ 31) (h : b ≤ a) : ¬ nI a < nI b := fun q => by have := (qi_lt ha hb).mp q; omega
theorem qf_rem1 {x0 r : UInt64} {z : Nat} (hz : 0 < z) (hr : qf_F r) (sr : qf_S r = false) : ∀ (n i : Nat) (s : UInt64), 2200 < n + i → i ≤ 2098 → qf_F s → qf_S s = false → qf_Z s = z * 2 ^ i → z * 2 ^ i ≤ qf_Z r →
    ∃ d s', qf_F s' ∧ qf_S s' = false ∧ qf_Z s' = z * 2 ^ d ∧ qf_Z r < 2 * qf_Z s' ∧ d ≤ 2098 ∧ fX8_remainder_l44 w n (I, L, D, R, x0, r, s, nI i, nI i) = fX8_remainder_b79 w I L D R x0 r s' (nI d) := by
  have hR := qf_R_lt (qf_F_R hr)
  intro n
  induction n with
  | zero => intro i s h h2; omega
  | succ n ih =>
    intro i s hn hi hs ss hzs hle
    rw [fX8_remainder_l44_s]
    unfold fX8_remainder_b44
    rw [if_neg (fun q => by have := (qi_le (a := 2200) (by decide) (by omega)).mp q; omega)]
    obtain ⟨d1, d2, d3, d4⟩ := qf_dbl hs ss
    rw [(qf_n64 _).mpr d1]
    rw [qc_gdt, qc_gdt]
    have hcmp : (0 < Op.cmpValue (FP.dcmp (FP.dadd s s) r) .g) ↔ qf_Z r < 2 * qf_Z s := by
      rw [qk_gt d1 hr.N, qk_Z hr.N d1 sr d2]
      by_cases h : 2 * qf_Z s < 2 ^ 2098
      · rw [(d3 h).2]
      · rw [d4 (Nat.not_lt.mp h)]
        omega
    by_cases h : qf_Z r < 2 * qf_Z s
    · rw [if_pos (hcmp.mpr h)]
      exact ⟨i, s, hs, ss, hzs, h, hi, rfl⟩
    · rw [if_neg (fun q => h (hcmp.mp q))]
      obtain ⟨e1, e2⟩ := d3 (by omega)
      have e3 : qf_Z (FP.dadd s s) = z * 2 ^ (i + 1) := by rw [e2, hzs, Nat.pow_succ]; simp only [Nat.mul_comm, Nat.mul_left_comm]
      have hi2 : i + 1 ≤ 2098 := by
        rcases Nat.lt_or_ge 2098 (i + 1) with h9 | h9
        · exfalso
          have h5 : 1 * 2 ^ (i + 1) ≤ z * 2 ^ (i + 1) := Nat.mul_le_mul_right _ hz
          have h6 : 2 ^ 2098 ≤ 2 ^ (i + 1) := Nat.pow_le_pow_right (by decide) (by omega)
          omega
        · exact h9
      have := ih (i + 1) (FP.dadd s s) (by omega) hi2 e1 d2 e3 (by omega)
      rw [← nI_add] at this
      exact this
theorem qf_rem2 {x0 : UInt64} {z d : Nat} (hz : 0 < z) (hzR : qf_R z) (hd : d ≤ 2098) (hx0 : qf_N x0) : ∀ (n i : Nat) (r s : UInt64), d + 2 ≤ n + i → i ≤ d + 1 → qf_F r → qf_S r = false → qf_N s → (i ≤ d → qf_F s ∧ qf_S s = false ∧ qf_Z s = z * 2 ^ (d - i) ∧ qf_Z r < 2 * qf_Z s) → (i = d + 1 → qf_Z r < z) →
    ∃ r', qf_F r' ∧ qf_S r' = false ∧ qf_Z r' = qf_Z r % z ∧ fX8_remainder_l82 w n (I, L, D, R, x0, r, s, nI d, nI i) = some (if 0 ≤ qk x0 then r' else FP.dneg r', I, L, D, R) := by
  intro n
  induction n with
  | zero => intro i r s h h2; omega
  | succ n ih =>
    intro i r s hn hi hr sr hsN hs hend
    rw [fX8_remainder_l82_s]
    unfold fX8_remainder_b82 fX8_remainder_b104
    by_cases h : i = d + 1
    · rw [if_pos ((qi_lt (by omega) (by omega)).mpr (by omega))]
      refine ⟨r, hr, sr, (Nat.mod_eq_of_lt (hend h)).symm, ?_⟩
      simp only [qk_ge hx0 qf_N0, qk_0]
      split <;> rfl
    · rw [if_neg (qi_nlt (by omega) (by omega) (by omega))]
      obtain ⟨s1, s2, s3, s4⟩ := hs (by omega)
      have hN := qf_half_N s1
      rw [(qf_n64 _).mpr hN, qc_gdt, qc_gdt]
      have next : ∀ r1, qf_F r1 → qf_S r1 = false → qf_Z r1 < qf_Z s → qf_Z r1 % z = qf_Z r % z → ∃ r', qf_F r' ∧ qf_S r' = false ∧ qf_Z r' = qf_Z r % z ∧ fX8_remainder_l82 w n (I, L, D, R, x0, r1, FP.dmul s 4602678819172646912, nI d, nI i + 1) = some (if 0 ≤ qk x0 then r' else FP.dneg r', I, L, D, R) := by
        intro r1 q1 q2 q3 q4
        have e9 : nI i + 1 = nI (i + 1) := (nI_add i 1)
        rw [← q4, e9]
        refine ih (i + 1) r1 _ (by omega) (by omega) q1 q2 hN (fun h5 => ?_) (fun h5 => ?_)
        · have hR : qf_R (z * 2 ^ (d - (i + 1))) := by
            have h6 := qf_R_lt (qf_F_R s1)
            have h7 : z * 2 ^ (d - (i + 1)) ≤ z * 2 ^ (d - i) := Nat.mul_le_mul_left _ (Nat.pow_le_pow_right (by decide) (by omega))
            rw [s3] at h6
            have h8 := Nat.lt_of_le_of_lt h7 h6
            obtain ⟨c, k, c1, c2, c3⟩ := hzR
            rw [c3, Nat.mul_assoc, ← Nat.pow_add] at h8 ⊢
            exact qf_R_mk c1 h8
          obtain ⟨y, y1, y2, y3⟩ := qf_R_of hR false
          have e : FP.dmul s 4602678819172646912 = y := qf_half s1 y1 (by rw [y2, s2]) (by rw [y3, s3, show d - i = d - (i + 1) + 1 by omega, Nat.pow_succ]; simp only [Nat.mul_comm, Nat.mul_left_comm])
          rw [e]
          refine ⟨y1, y2, y3, ?_⟩
          rw [y3]
          rw [s3, show d - i = d - (i + 1) + 1 by omega, Nat.pow_succ] at q3
          rw [show 2 * (z * 2 ^ (d - (i + 1))) = z * (2 ^ (d - (i + 1)) * 2) by simp only [Nat.mul_comm, Nat.mul_left_comm]]
          exact q3
        · rw [s3, show d - i = 0 by omega, Nat.pow_zero, Nat.mul_one] at q3
          exact q3
      have hcmp : (Op.cmpValue (FP.dcmp r s) .l < 0) ↔ qf_Z r < qf_Z s := by rw [qk_lt hr.N s1.N, qk_Z hr.N s1.N sr s2]
      by_cases h5 : qf_Z r < qf_Z s
      · rw [if_pos (hcmp.mpr h5)]
        exact next r hr sr h5 rfl
      · rw [if_neg (fun q => h5 (hcmp.mp q))]
        obtain ⟨t1, t2, t3⟩ := qf_dsub hr s1 sr s2 (by omega) s4
        rw [(qf_n64 _).mpr t1.N, qc_gdt]
        refine next _ t1 t2 (by omega) ?_
        rw [t3, s3]
        have h6 : qf_Z r = qf_Z r - z * 2 ^ (d - i) + 2 ^ (d - i) * z := by rw [Nat.mul_comm (2 ^ (d - i))]; omega
        conv => rhs; rw [h6]
        rw [Nat.add_mul_mod_self_right]
theorem qf_F9 : 2200 < qcF + 0 := by unfold qcF; omega
theorem qf_F10 {d : Nat} (h : d ≤ 2098) : d + 2 ≤ qcF + 0 := by unfold qcF; omega
theorem qf_abs {x : UInt64} (hx : qf_N x) (h : qk x ≠ 0) : ∃ y, (if 0 ≤ qk x then x else FP.dneg x) = y ∧ qf_N y ∧ qf_S y = false ∧ qf_Z y = qf_Z x ∧ qk y = (qk x).natAbs := by
  refine ⟨_, rfl, ?_⟩
  by_cases h1 : 0 ≤ qk x
  · rw [if_pos h1]
    exact ⟨hx, (qf_pz hx (by omega)).1, rfl, by omega⟩
  · rw [if_neg h1]
    refine ⟨qf_neg_N hx, ?_, qf_neg_Z hx, by rw [qk_neg hx]; omega⟩
    rw [qf_neg_S hx, qf_SM hx, qf_M_lt (by omega)]
    rfl
theorem fx_remainder {x y : UInt64} (hx : qf_F x) (hy : qf_N y) (h0 : qk y ≠ 0) : fX8_remainder w I L D R x y = some (FP.drem x y, I, L, D, R) := by
  have hz : ¬ FP.Core.DZero y := by
    intro h
    rw [FP.Core.zero_bits2] at h
    have := y.toNat_lt
    rw [qk_S] at h0
    split at h0 <;> omega
  obtain ⟨m1, m2, m3⟩ := FP.Core.drem_zval hx hy hz
  have key : ∀ r, qf_N r → qf_S r = qf_S x → qf_Z r = qf_Z x % qf_Z y → r = FP.drem x y := fun r a1 a2 a3 => qf_eq a1 m1 (by rw [a2]; exact m2.symm) (by rw [a3]; exact m3.symm)
  obtain ⟨v, hv, v1, v2, v3, v4⟩ := qf_abs hy h0
  have hstep : ∀ s0, fX8_remainder_b12 w I L D R x y s0 = fX8_remainder_b26 w I L D R x s0 v := by
    intro s0
    unfold fX8_remainder_b12
    simp only [qk_ge hy qf_N0, qk_0]
    rw [← hv]
    split <;> rfl
  unfold fX8_remainder
  simp only [qk_ge hx.N qf_N0, qk_0, hstep]
  have hgo : ∀ u, qf_N u → qk u < qk v → fX8_remainder_b26 w I L D R x u v = some (x, I, L, D, R) := by
    intro u hu hlt
    unfold fX8_remainder_b26
    rw [if_neg (fun q => by have := (qk_ge hu v1).mp q; omega)]
  by_cases hx0 : qk x = 0
  · have : FP.drem x y = x := (key x hx.N rfl (by
      have hZ : qf_Z x = 0 := by
        rcases qf_z0 hx0 with rfl | rfl <;> decide +kernel
      rw [hZ, Nat.zero_mod])).symm
    rw [if_pos (by omega), this]
    exact hgo x hx.N (by omega)
  · obtain ⟨u, hu, u1, u2, u3, u4⟩ := qf_abs hx.N hx0
    have huF : qf_F u := qf_F_of u1 (by rw [u3]; exact qf_R_lt (qf_F_R hx))
    have e1 : (if 0 ≤ qk x then fX8_remainder_b26 w I L D R x x v else fX8_remainder_b26 w I L D R x (FP.dneg x) v) = fX8_remainder_b26 w I L D R x u v := by
      rw [← hu]
      split <;> rfl
    rw [e1]
    by_cases hlt : qk u < qk v
    · rw [hgo u u1 hlt]
      rw [qk_Z u1 v1 u2 v2, u3, v3] at hlt
      rw [← key x hx.N rfl (Nat.mod_eq_of_lt hlt).symm]
    · unfold fX8_remainder_b26
      rw [if_pos ((qk_ge u1 v1).mpr (by omega))]
      have hle : qf_Z v ≤ qf_Z u := by
        rw [qk_Z u1 v1 u2 v2] at hlt
        omega
      have hvF : qf_F v := qf_F_of v1 (Nat.lt_of_le_of_lt hle (qf_R_lt (qf_F_R huF)))
      have hvpos : 0 < qf_Z v := (qf_pz v1 (by omega)).2
      obtain ⟨d, s', s1, s2, s3, s4, s5, s6⟩ := qf_rem1 (w := w) (I := I) (L := L) (D := D) (R := R) (x0 := x) hvpos huF u2 qcF 0 v qf_F9 (by omega) hvF v2 (by rw [Nat.pow_zero, Nat.mul_one]) (by rw [Nat.pow_zero, Nat.mul_one]; exact hle)
      have s6' : fX8_remainder_l44 w qcF (I, L, D, R, x, u, v, 0, 0) = fX8_remainder_b79 w I L D R x u s' (nI d) := s6
      rw [s6']
      unfold fX8_remainder_b79
      obtain ⟨r', r1, r2, r3, r4⟩ := qf_rem2 (w := w) (I := I) (L := L) (D := D) (R := R) (x0 := x) hvpos (qf_F_R hvF) s5 hx.N qcF 0 u s' (qf_F10 s5) (by omega) huF u2 s1.N (fun _ => ⟨s1, s2, by rw [s3, Nat.sub_zero], s4⟩) (fun h => by omega)
      have r4' : fX8_remainder_l82 w qcF (I, L, D, R, x, u, s', nI d, 0) = some (if 0 ≤ qk x then r' else FP.dneg r', I, L, D, R) := r4
      rw [r4', key (if 0 ≤ qk x then r' else FP.dneg r') ?_ ?_ ?_]
      · split
        · exact r1.N
        · exact qf_neg_N r1.N
      · by_cases h1 : 0 ≤ qk x
        · rw [if_pos h1, r2]
          exact (qf_pz hx.N (by omega)).1.symm
        · rw [if_neg h1, qf_neg_S r1.N, r2, qf_SM hx.N, qf_M_lt (by omega)]
          rfl
      · rw [← u3, ← v3, ← r3]
        split
        · rfl
        · exact qf_neg_Z r1.N
end
