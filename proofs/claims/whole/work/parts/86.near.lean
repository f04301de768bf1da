/-! the reference's nearest -/
theorem qf_hS : qf_S 4602678819172646912 = false := by unfold qf_S; rw [qf_hf]; rfl
theorem qf_hZ : qf_Z 4602678819172646912 = 2 ^ 1073 := by
  unfold qf_Z
  rw [qf_hf]
  show 2 ^ 52 * 2 ^ ((-53 : Int) - FP.Core.b64.qmin).toNat = _
  rw [FP.Core.qmin_b64, ← Nat.pow_add, show (-53 - -1074 : Int).toNat = 1021 from rfl]
theorem qf_hF : qf_F 4602678819172646912 := ⟨_, _, _, qf_hf⟩
theorem qf_2p : qf_p2 4611686018427387904 1 := by
  show qf_p2 (qf_pw 1) 1
  exact qf_pw_2 (by decide)
theorem qf_R0 : qf_R 0 := ⟨0, 0, by decide, by decide, by decide⟩
theorem qf_R_mod {x : UInt64} (hx : qf_F x) : qf_R (qf_Z x % 2 ^ 1074) := by
  obtain ⟨c, k, _, h1, h2, h3, hz⟩ := qf_fin hx
  by_cases hk : 1074 ≤ k
  · have e : qf_Z x % 2 ^ 1074 = 0 := by
      rw [hz, show k = k - 1074 + 1074 by omega, Nat.pow_add, ← Nat.mul_assoc]
      exact Nat.mul_mod_left _ _
    rw [e]
    exact qf_R0
  · refine ⟨c % 2 ^ (1074 - k), k, Nat.lt_of_le_of_lt (Nat.mod_le _ _) h1, h2, ?_⟩
    have e : (2 ^ 1074 : Nat) = 2 ^ (1074 - k) * 2 ^ k := by rw [← Nat.pow_add, show 1074 - k + k = 1074 by omega]
    rw [hz, e, Nat.mul_mod_mul_right]
theorem qf_lp {x : UInt64} (hx : qf_F x) (hs : qf_S x = false) (h2 : qf_Z x < 2 ^ 52 * 2 ^ 1074) : qf_F (FP.dsub x (qf_int false (qf_Z x / 2 ^ 1074))) ∧ qf_S (FP.dsub x (qf_int false (qf_Z x / 2 ^ 1074))) = false ∧ qf_Z (FP.dsub x (qf_int false (qf_Z x / 2 ^ 1074))) = qf_Z x % 2 ^ 1074 := by
  have hq := qf_q52 h2
  have hdm := Nat.div_add_mod (qf_Z x) (2 ^ 1074)
  obtain ⟨y, y1, y2, y3⟩ := qf_R_of (qf_R_mod hx) false
  have e : FP.dsub x (qf_int false (qf_Z x / 2 ^ 1074)) = y := by
    refine qf_dif hx (qf_int_of (by omega)).1 y1 ?_ (fun _ => ?_)
    · rw [qf_int_V (by omega)]
      unfold qf_V
      rw [y2, y3, hs, qf_sgn0, qf_sgn0]
      simp only [Bool.false_eq_true, if_false]
      rw [Nat.mul_comm]
      omega
    · rw [y2, hs]
      rfl
  rw [e]
  exact ⟨y1, y2, y3⟩
theorem qf_lz {x : UInt64} (hx : qf_F x) (hs : qf_S x = true) (h2 : qf_Z x < 2 ^ 52 * 2 ^ 1074) (h0 : qf_Z x % 2 ^ 1074 = 0) : FP.dsub x (qf_int true (qf_Z x / 2 ^ 1074)) = 0 := by
  have hq := qf_q52 h2
  have hdm := Nat.div_add_mod (qf_Z x) (2 ^ 1074)
  rw [qf_zero]
  refine qf_dif hx (qf_int_of (by omega)).1 (qf_int_of (by decide)).1 ?_ (fun _ => ?_)
  · rw [qf_int_V (n := 0) (by decide), qf_int_V (n := qf_Z x / 2 ^ 1074) (by omega)]
    unfold qf_V
    rw [hs, qf_sgn0]
    simp only [Bool.false_eq_true, if_false, if_true]
    rw [Nat.mul_comm (qf_Z x / 2 ^ 1074)]
    omega
  · rw [(qf_int_of (by decide)).2.1, hs, (qf_int_of (by omega)).2.1]
    rfl
theorem qf_ln {x : UInt64} (hx : qf_F x) (hs : qf_S x = true) (h2 : qf_Z x < 2 ^ 52 * 2 ^ 1074) (h0 : qf_Z x % 2 ^ 1074 ≠ 0) :
    (qf_F (FP.dsub x (qf_int true (qf_Z x / 2 ^ 1074 + 1))) ∧ qf_S (FP.dsub x (qf_int true (qf_Z x / 2 ^ 1074 + 1))) = false ∧ qf_Z (FP.dsub x (qf_int true (qf_Z x / 2 ^ 1074 + 1))) = 2 ^ 1074 - qf_Z x % 2 ^ 1074) ∨ (qf_N (FP.dsub x (qf_int true (qf_Z x / 2 ^ 1074 + 1))) ∧ qk 4602678819172646912 ≤ qk (FP.dsub x (qf_int true (qf_Z x / 2 ^ 1074 + 1))) ∧ qf_Z x < 2 ^ 1073) := by
  have hq := qf_q52 h2
  have hdm := Nat.div_add_mod (qf_Z x) (2 ^ 1074)
  have hml := Nat.mod_lt (qf_Z x) (Nat.two_pow_pos 1074)
  obtain ⟨c, k, hv, h1, hk2, h3, hz⟩ := qf_fin hx
  have hk : k < 1074 := by
    rcases Nat.lt_or_ge k 1074 with h | h
    · exact h
    · exfalso
      apply h0
      rw [hz, show k = k - 1074 + 1074 by omega, Nat.pow_add, ← Nat.mul_assoc]
      exact Nat.mul_mod_left _ _
  have e : (2 ^ 1074 : Nat) = 2 ^ (1074 - k) * 2 ^ k := by rw [← Nat.pow_add, show 1074 - k + k = 1074 by omega]
  by_cases hb : 1021 ≤ k
  · left
    have hR : qf_R (2 ^ 1074 - qf_Z x % 2 ^ 1074) := by
      refine ⟨2 ^ (1074 - k) - c % 2 ^ (1074 - k), k, ?_, hk2, ?_⟩
      · have h5 : 2 ^ (1074 - k) ≤ 2 ^ 53 := Nat.pow_le_pow_right (by decide) (by omega)
        have h6 : c % 2 ^ (1074 - k) ≠ 0 := by
          intro h
          apply h0
          rw [hz, e, Nat.mul_mod_mul_right, h, Nat.zero_mul]
        omega
      · rw [hz, e, Nat.mul_mod_mul_right, Nat.sub_mul]
    obtain ⟨y, y1, y2, y3⟩ := qf_R_of hR false
    have e2 : FP.dsub x (qf_int true (qf_Z x / 2 ^ 1074 + 1)) = y := by
      refine qf_dif hx (qf_int_of (by omega)).1 y1 ?_ (fun _ => ?_)
      · rw [qf_int_V (by omega), Nat.add_mul]
        unfold qf_V
        rw [y2, y3, hs, qf_sgn0, qf_sgn0]
        simp only [Bool.false_eq_true, if_false, if_true]
        rw [Nat.mul_comm (qf_Z x / 2 ^ 1074)]
        omega
      · rw [y2, hs, (qf_int_of (by omega)).2.1]
        rfl
    rw [e2]
    exact ⟨y1, y2, y3⟩
  · right
    have hZ : qf_Z x < 2 ^ 1073 := by
      have h5 : c * 2 ^ k < 2 ^ 53 * 2 ^ k := Nat.mul_lt_mul_of_pos_right h1 (Nat.two_pow_pos k)
      rw [← Nat.pow_add] at h5
      rw [hz]
      exact Nat.lt_of_lt_of_le h5 (Nat.pow_le_pow_right (by decide) (by omega))
    have hq0 : qf_Z x / 2 ^ 1074 = 0 := Nat.div_eq_of_lt (Nat.lt_of_lt_of_le hZ (Nat.pow_le_pow_right (by decide) (by decide)))
    rw [hq0]
    obtain ⟨a1, a2, a3⟩ := qf_int_of (s := true) (n := 0 + 1) (by decide)
    obtain ⟨s2, c2, q2, hw⟩ := a1
    have hfx := FP.Core.val64_fits x
    have hft := FP.Core.negate_fits (FP.Core.val64_fits (qf_int true (0 + 1)))
    rw [hv] at hfx
    rw [hw] at hft
    obtain ⟨sg, n, e3, g1, g2, g3⟩ := FP.Core.sum_units hfx hft
    have hr : FP.Core.val64 (FP.dsub x (qf_int true (0 + 1))) = FP.Core.roundRatio FP.Core.b64 sg n 1 e3 := by
      show FP.Core.val64 (FP.Core.dsub x (qf_int true (0 + 1))) = _
      rw [FP.Core.val64_dsub, hv, hw]
      show FP.Core.round FP.Core.b64 (FP.Core.exactSum _ (.fin (!s2) c2 q2)) = _
      rw [g1]
      rfl
    have z1 : FP.Core.zval FP.Core.b64 (.fin (qf_S x) c ((k : Int) - 1074)) = -((qf_Z x : Nat) : Int) := by
      rw [← hv]
      show FP.Core.signed (qf_S x) (qf_Z x) = _
      rw [hs]
      rfl
    have z2 : FP.Core.zval FP.Core.b64 (.fin (!s2) c2 q2) = ((2 ^ 1074 : Nat) : Int) := by
      show FP.Core.zval FP.Core.b64 (FP.Core.negate (.fin s2 c2 q2)) = _
      rw [← hw, FP.Core.zval_negate]
      show -FP.Core.signed (qf_S (qf_int true (0 + 1))) (qf_Z (qf_int true (0 + 1))) = _
      rw [a2, a3, qf_sgn0, Nat.zero_add, Nat.one_mul]
      simp only [if_true]
      omega
    change FP.Core.signed sg (FP.Core.inUnits n e3 FP.Core.b64.qmin) = FP.Core.zval FP.Core.b64 (.fin (qf_S x) c ((k : Int) - 1074)) + FP.Core.zval FP.Core.b64 (.fin (!s2) c2 q2) at g3
    rw [z1, z2, qf_sgn0] at g3
    have hsg : sg = false := by
      cases hsg : sg
      · rfl
      · rw [hsg] at g3
        simp only [if_true] at g3
        omega
    subst hsg
    simp only [Bool.false_eq_true, if_false] at g3
    have hN : qf_N (FP.dsub x (qf_int true (0 + 1))) := by
      unfold qf_N
      rw [hr]
      exact FP.Core.roundRatio_ne_nan _ _ _ _ _
    have hS : qf_S (FP.dsub x (qf_int true (0 + 1))) = false := by
      unfold qf_S
      rw [hr]
      exact FP.Core.sgn_roundRatio _ _ _ _ _
    refine ⟨hN, ?_, hZ⟩
    have h6 := FP.Core.mag_ge FP.Core.good_b64 (n := (FP.dsub x (qf_int true (0 + 1))).toNat) (m := 1022 * 2 ^ 52) (e0 := FP.Core.b64.qmin) hr (by decide) (Int.le_refl _) g2 (by decide) (by
      rw [Int.sub_self]
      unfold FP.Core.unitsOf
      rw [FP.Core.tails_b64, if_neg (by decide), show (1022 * 2 ^ 52) % 2 ^ 52 = 0 by decide, show (1022 * 2 ^ 52) / 2 ^ 52 - 1 = 1021 by decide, Nat.add_zero, ← Nat.pow_add, show (0 : Int).toNat = 0 from rfl, Nat.pow_zero, Nat.mul_one, Nat.mul_one, show 52 + 1021 = 1073 from rfl]
      omega)
    rw [FP.Core.mag_toNat64] at h6
    obtain ⟨b1, b2⟩ := qk_pos hN hS
    rw [b1, (qk_pos qf_hF.N qf_hS).1, show (4602678819172646912 : UInt64).toNat = 1022 * 2 ^ 52 by decide]
    omega
section
variable {w : qcW} {I : qTI} {L : qTL} {D : qTD} {R : qTR} {x : UInt64}
theorem qf_i_half {s : Bool} {m : Nat} (h : m < 2 ^ 53) : FP.ddiv (qf_int s m) 4611686018427387904 = qf_mk s m 1073 := by
  obtain ⟨a1, a2, a3⟩ := qf_int_of (s := s) h
  obtain ⟨b1, b2, b3⟩ := qf_mk_of (s := s) (k := 1073) h (by decide)
  exact qf_div a1 qf_2p b1 (by rw [a2, b2]) (by rw [a3, b3, Nat.mul_assoc, ← Nat.pow_add])
theorem qf_i_dbl {s : Bool} {m : Nat} (h : 2 * m < 2 ^ 53) : FP.dmul 4611686018427387904 (qf_int s m) = qf_int s (2 * m) := by
  obtain ⟨a1, a2, a3⟩ := qf_int_of (s := s) (n := m) (by omega)
  obtain ⟨b1, b2, b3⟩ := qf_int_of (s := s) h
  have e : FP.dmul 4611686018427387904 (qf_int s m) = FP.dmul (qf_int s m) 4611686018427387904 := FP.Core.dmul_comm _ _
  rw [e]
  exact qf_mul a1 qf_2p b1 (by rw [a2, b2]) (by rw [a3, b3, Nat.pow_one, Nat.mul_assoc m, Nat.mul_comm (2 ^ 1074) 2, ← Nat.mul_assoc, Nat.mul_comm 2 m])
theorem qf_k0 {x : UInt64} (hx : qf_N x) (h : qf_Z x = 0) : qk x = 0 := by
  rcases Int.lt_or_le (qk x) 0 with h1 | h1
  · have := qf_nzZ hx (by omega)
    omega
  · rcases Int.lt_or_le 0 (qk x) with h2 | h2
    · have := qf_nzZ hx (by omega)
      omega
    · omega
/-- whether a whole number is even -/
theorem qf_even {s : Bool} {m : Nat} (h : m ≤ 2 ^ 52) : ∃ j, fX12_floor w I L D R (FP.ddiv (qf_int s m) 4611686018427387904) = some (j, I, L, D, R) ∧ qc_n64 (FP.ddiv (qf_int s m) 4611686018427387904) = true ∧ qc_n64 (FP.dmul 4611686018427387904 j) = true ∧ ((Op.cmpValue (FP.dcmp (FP.dmul 4611686018427387904 j) (qf_int s m)) .l = 0) ↔ m % 2 = 0) := by
  obtain ⟨b1, b2, b3⟩ := qf_mk_of (s := s) (c := m) (k := 1073) (by omega) (by decide)
  obtain ⟨c1, c2, c3⟩ := qf_int_of (s := s) (n := m) (by omega)
  rw [qf_i_half (by omega)]
  refine ⟨_, fm_floor b1.N, (qf_n64 _).mpr b1.N, ?_⟩
  unfold qf_fl
  have e74 : (2 ^ 1074 : Nat) = 2 * 2 ^ 1073 := by rw [← Nat.pow_succ']
  by_cases h0 : m = 0
  · subst h0
    have hz0 : qf_Z (qf_mk s 0 1073) = 0 := by rw [b3, Nat.zero_mul]
    have hz1 : qf_Z (qf_int s 0) = 0 := by rw [c3, Nat.zero_mul]
    rw [if_pos (qf_k0 b1.N hz0)]
    have e : FP.dmul 4611686018427387904 (qf_mk s 0 1073) = qf_int s 0 := by
      have e1 : FP.dmul 4611686018427387904 (qf_mk s 0 1073) = FP.dmul (qf_mk s 0 1073) 4611686018427387904 := FP.Core.dmul_comm _ _
      rw [e1]
      exact qf_mul b1 qf_2p c1 (by rw [c2, b2]) (by rw [hz0, hz1, Nat.zero_mul])
    rw [e, (qf_n64 _).mpr c1.N, qk_eq c1.N c1.N]
    exact ⟨rfl, fun _ => rfl, fun _ => rfl⟩
  · have hk : qk (qf_mk s m 1073) ≠ 0 := by
      intro h5
      rcases qf_z0 h5 with h6 | h6 <;> rw [h6] at b3
      · rw [show qf_Z 0 = 0 by decide +kernel] at b3
        rcases Nat.mul_eq_zero.mp b3.symm with h7 | h7
        · exact h0 h7
        · exact absurd h7 (Nat.ne_of_gt (Nat.two_pow_pos _))
      · rw [show qf_Z 9223372036854775808 = 0 by decide +kernel] at b3
        rcases Nat.mul_eq_zero.mp b3.symm with h7 | h7
        · exact h0 h7
        · exact absurd h7 (Nat.ne_of_gt (Nat.two_pow_pos _))
    have hlt : qf_Z (qf_mk s m 1073) < 2 ^ 52 * 2 ^ 1074 := by
      rw [b3, e74, ← Nat.mul_assoc]
      exact Nat.mul_lt_mul_of_pos_right (by omega) (Nat.two_pow_pos _)
    rw [if_neg hk, if_pos hlt, b2, b3]
    have d1 : m * 2 ^ 1073 / 2 ^ 1074 = m / 2 := by rw [e74, Nat.mul_div_mul_right _ _ (Nat.two_pow_pos _)]
    have d2 : m * 2 ^ 1073 % 2 ^ 1074 = m % 2 * 2 ^ 1073 := by rw [e74, Nat.mul_mod_mul_right]
    rw [d1, d2]
    have key : ∀ n, 2 * n ≤ m + 1 → (2 * n = m ↔ m % 2 = 0) → qc_n64 (FP.dmul 4611686018427387904 (qf_int s n)) = true ∧ ((Op.cmpValue (FP.dcmp (FP.dmul 4611686018427387904 (qf_int s n)) (qf_int s m)) .l = 0) ↔ m % 2 = 0) := by
      intro n hn hi
      rw [qf_i_dbl (by omega)]
      obtain ⟨g1, g2, g3⟩ := qf_int_of (s := s) (n := 2 * n) (by omega)
      refine ⟨(qf_n64 _).mpr g1.N, ?_⟩
      rw [qk_eq g1.N c1.N, ← hi]
      constructor
      · intro h5
        have hnl : ¬ qk (qf_int s (2 * n)) < qk (qf_int s m) := by omega
        have hnl2 : ¬ qk (qf_int s m) < qk (qf_int s (2 * n)) := by omega
        have hp := Nat.two_pow_pos 1074
        cases s
        · rw [qk_Z g1.N c1.N g2 c2, g3, c3, Nat.mul_lt_mul_right hp] at hnl
          rw [qk_Z c1.N g1.N c2 g2, g3, c3, Nat.mul_lt_mul_right hp] at hnl2
          omega
        · rw [qk_Zt g1.N c1.N g2 c2, g3, c3, Nat.mul_lt_mul_right hp] at hnl
          rw [qk_Zt c1.N g1.N c2 g2, g3, c3, Nat.mul_lt_mul_right hp] at hnl2
          omega
      · intro h5
        rw [h5]
    cases s
    · simp only [Bool.false_eq_true, if_false]
      exact key _ (by omega) (by omega)
    · simp only [if_true]
      rcases Nat.mod_two_eq_zero_or_one m with h5 | h5
      · rw [if_pos (by rw [h5, Nat.zero_mul])]
        exact key _ (by omega) (by omega)
      · rw [if_neg (by rw [h5, Nat.one_mul]; exact Nat.ne_of_gt (Nat.two_pow_pos _))]
        exact key _ (by omega) (by omega)
theorem qf_int_M {s : Bool} {n : Nat} (h : n < 2 ^ 53) : qf_M (qf_int s n) = s := by
  obtain ⟨a1, a2, a3⟩ := qf_int_of (s := s) h
  rw [← qf_SM a1.N, a2]
theorem qf_b88 {s : Bool} {n : Nat} (hx : qf_N x) (h : n < 2 ^ 53) : fX12_nearest_b88 w I L D R x (qf_int s n) = some (qf_int (qf_S x) n, I, L, D, R) := by
  obtain ⟨a1, a2, a3⟩ := qf_int_of (s := s) h
  unfold fX12_nearest_b88
  rw [fm_without a1.N, qf_int_M h]
  show (qc_bd (fX12_isMinus w I L D R x) fun r2 I2 L2 D2 R2 => _) = _
  rw [fm_isMinus hx, ← qf_SM hx]
  show (if qf_S x = true then some (FP.dneg (if s = true then FP.dneg (qf_int s n) else qf_int s n), I, L, D, R) else some (if s = true then FP.dneg (qf_int s n) else qf_int s n, I, L, D, R)) = _
  have e : (if s = true then FP.dneg (qf_int s n) else qf_int s n) = qf_int false n := by
    cases s
    · rfl
    · exact qf_int_neg h
  rw [e]
  cases qf_S x
  · rfl
  · rw [if_pos rfl, qf_int_neg h]
    rfl
/-- the choice between two whole numbers -/
theorem qf_b56 {s : Bool} {m n : Nat} {left : UInt64} {ev : Int32} (hx : qf_N x) (hN : qf_N left) (hm : m ≤ 2 ^ 52) (hadd : ∃ s' n', FP.dadd (qf_int s m) 4607182418800017408 = qf_int s' n' ∧ n' ≤ 2 ^ 52 ∧ (¬ (qk left < qk 4602678819172646912 ∨ (qk left = qk 4602678819172646912 ∧ ¬ ev = 0)) → n = n')) (hn : (qk left < qk 4602678819172646912 ∨ (qk left = qk 4602678819172646912 ∧ ¬ ev = 0)) → n = m) :
    fX12_nearest_b56 w I L D R x (qf_int s m) left ev = some (qf_int (qf_S x) n, I, L, D, R) := by
  obtain ⟨s', n', e1, e2, e3⟩ := hadd
  unfold fX12_nearest_b56 fX12_nearest_b81 fX12_nearest_b85
  simp only [qk_lt hN qf_hF.N, qk_eq hN qf_hF.N]
  rw [e1, (qf_n64 _).mpr (qf_int_of (by omega)).1.N]
  simp only [qc_gdt]
  rw [qf_b88 hx (by omega), qf_b88 hx (by omega)]
  by_cases h1 : qk left < qk 4602678819172646912
  · rw [if_pos h1, hn (Or.inl h1)]
  · rw [if_neg h1]
    by_cases h2 : qk left = qk 4602678819172646912
    · rw [if_pos h2]
      by_cases h3 : ev = 0
      · rw [if_pos h3, e3 (by rintro (h5 | ⟨_, h5⟩); exact h1 h5; exact h5 h3)]
      · rw [if_neg h3, hn (Or.inr ⟨h2, h3⟩)]
    · rw [if_neg h2, e3 (by rintro (h5 | ⟨h5, _⟩); exact h1 h5; exact h2 h5)]
theorem qf_rn_def (z : Nat) : qf_rn z = if 2 * (z % 2 ^ 1074) < 2 ^ 1074 then z / 2 ^ 1074 else if 2 ^ 1074 < 2 * (z % 2 ^ 1074) then z / 2 ^ 1074 + 1 else z / 2 ^ 1074 + z / 2 ^ 1074 % 2 := rfl
theorem fm_nearest (hx : qf_N x) : fX12_nearest w I L D R x = some (if qk x = 0 then x else if qf_Z x < 2 ^ 52 * 2 ^ 1074 then qf_int (qf_S x) (qf_rn (qf_Z x)) else x, I, L, D, R) := by
  unfold fX12_nearest
  simp only [qk_eq hx qf_N0, qk_0]
  by_cases h : qk x = 0
  · rw [if_pos h, if_pos h]
  · rw [if_neg h, if_neg h]
    have hlt := qf_nlt hx h
    by_cases h2 : qf_Z x < 2 ^ 52 * 2 ^ 1074
    · have hxF : qf_F x := qf_F_of hx (Nat.lt_of_lt_of_le h2 (by rw [← Nat.pow_add]; exact Nat.pow_le_pow_right (by decide) (by decide)))
      obtain ⟨c1, c2⟩ := hlt.mpr h2
      have hq := qf_q52 h2
      have hdm := Nat.div_add_mod (qf_Z x) (2 ^ 1074)
      have hml := Nat.mod_lt (qf_Z x) (Nat.two_pow_pos 1074)
      have hrn := qf_rn_def (qf_Z x)
      have e74 : (2 ^ 1074 : Nat) = 2 * 2 ^ 1073 := by rw [← Nat.pow_succ']
      rw [if_neg c1, if_pos c2, if_pos h2, fm_floor hx]
      unfold qf_fl
      rw [if_neg h, if_pos h2]
      have main : ∀ (s : Bool) (m : Nat), m ≤ 2 ^ 52 → qf_N (FP.dsub x (qf_int s m)) → (∀ ev : Int32, (¬ ev = 0 ↔ m % 2 = 0) → fX12_nearest_b56 w I L D R x (qf_int s m) (FP.dsub x (qf_int s m)) ev = some (qf_int (qf_S x) (qf_rn (qf_Z x)), I, L, D, R)) →
          (qc_bd (some (qf_int s m, I, L, D, R)) fun r11 I11 L11 D11 R11 => qc_gd (qc_n64 (FP.dsub x r11)) <| qc_gd (qc_n64 (FP.ddiv r11 (4611686018427387904 : UInt64))) <| qc_bd (fX12_floor w I11 L11 D11 R11 (FP.ddiv r11 (4611686018427387904 : UInt64))) fun r14 I14 L14 D14 R14 => qc_gd (qc_n64 (FP.dmul (4611686018427387904 : UInt64) r14)) <| if (Op.cmpValue (FP.dcmp (FP.dmul (4611686018427387904 : UInt64) r14) r11) .l) = 0 then (fX12_nearest_b56 w I14 L14 D14 R14 x r11 (FP.dsub x r11) (1 : Int32)) else (fX12_nearest_b56 w I14 L14 D14 R14 x r11 (FP.dsub x r11) (0 : Int32))) = some (qf_int (qf_S x) (qf_rn (qf_Z x)), I, L, D, R) := by
        intro s m hm hN hb
        obtain ⟨j, j1, j2, j3, j4⟩ := qf_even (w := w) (I := I) (L := L) (D := D) (R := R) (s := s) hm
        show (qc_gd (qc_n64 (FP.dsub x (qf_int s m))) <| qc_gd (qc_n64 (FP.ddiv (qf_int s m) (4611686018427387904 : UInt64))) <| qc_bd (fX12_floor w I L D R (FP.ddiv (qf_int s m) (4611686018427387904 : UInt64))) fun r14 I14 L14 D14 R14 => qc_gd (qc_n64 (FP.dmul (4611686018427387904 : UInt64) r14)) <| if (Op.cmpValue (FP.dcmp (FP.dmul (4611686018427387904 : UInt64) r14) (qf_int s m)) .l) = 0 then (fX12_nearest_b56 w I14 L14 D14 R14 x (qf_int s m) (FP.dsub x (qf_int s m)) (1 : Int32)) else (fX12_nearest_b56 w I14 L14 D14 R14 x (qf_int s m) (FP.dsub x (qf_int s m)) (0 : Int32))) = _
        rw [(qf_n64 _).mpr hN, j2, qc_gdt, qc_gdt, j1]
        show (qc_gd (qc_n64 (FP.dmul (4611686018427387904 : UInt64) j)) <| if (Op.cmpValue (FP.dcmp (FP.dmul (4611686018427387904 : UInt64) j) (qf_int s m)) .l) = 0 then (fX12_nearest_b56 w I L D R x (qf_int s m) (FP.dsub x (qf_int s m)) (1 : Int32)) else (fX12_nearest_b56 w I L D R x (qf_int s m) (FP.dsub x (qf_int s m)) (0 : Int32))) = _
        rw [j3, qc_gdt]
        by_cases h5 : m % 2 = 0
        · rw [if_pos (j4.mpr h5)]
          exact hb 1 ⟨fun _ => h5, fun _ => by decide⟩
        · rw [if_neg (fun q => h5 (j4.mp q))]
          exact hb 0 ⟨fun q => absurd rfl q, fun q => absurd q h5⟩
      rcases (Bool.eq_false_or_eq_true (qf_S x)).symm with hs | hs
      · obtain ⟨l1, l2, l3⟩ := qf_lp hxF hs h2
        have e0 : (if qf_S x = true then qf_int true (if qf_Z x % 2 ^ 1074 = 0 then qf_Z x / 2 ^ 1074 else qf_Z x / 2 ^ 1074 + 1) else qf_int false (qf_Z x / 2 ^ 1074)) = qf_int false (qf_Z x / 2 ^ 1074) := if_neg (by rw [hs]; decide)
        rw [e0]
        refine main false _ (by omega) l1.N (fun ev hev => qf_b56 hx l1.N (by omega) ⟨false, qf_Z x / 2 ^ 1074 + 1, by rw [qf_one, qf_i_add (by omega)], by omega, fun hc => ?_⟩ (fun hc => ?_))
        · have k1 := qk_Z l1.N qf_hF.N l2 qf_hS
          have k2 := qk_Z qf_hF.N l1.N qf_hS l2
          rw [l3, qf_hZ] at k1 k2
          rw [hrn, if_neg (by intro h5; exact hc (Or.inl (k1.mpr (by omega))))]
          by_cases h6 : 2 ^ 1074 < 2 * (qf_Z x % 2 ^ 1074)
          · rw [if_pos h6]
          · rw [if_neg h6]
            have n1 : ¬ qk (FP.dsub x (qf_int false (qf_Z x / 2 ^ 1074))) < qk 4602678819172646912 := fun q => hc (Or.inl q)
            have n2 : ¬ qk 4602678819172646912 < qk (FP.dsub x (qf_int false (qf_Z x / 2 ^ 1074))) := by rw [k2]; omega
            have n3 : ¬ qf_Z x / 2 ^ 1074 % 2 = 0 := fun q => hc (Or.inr ⟨by omega, hev.mpr q⟩)
            omega
        · have k1 := qk_Z l1.N qf_hF.N l2 qf_hS
          have k2 := qk_Z qf_hF.N l1.N qf_hS l2
          rw [l3, qf_hZ] at k1 k2
          rcases hc with hc | ⟨hc, hc2⟩
          · rw [hrn, if_pos (by have := k1.mp hc; omega)]
          · have n1 : ¬ qf_Z x % 2 ^ 1074 < 2 ^ 1073 := by rw [← k1]; omega
            have n2 : ¬ 2 ^ 1073 < qf_Z x % 2 ^ 1074 := by rw [← k2]; omega
            rw [hrn, if_neg (by omega), if_neg (by omega), hev.mp hc2]
            rfl
      · have e0 : (if qf_S x = true then qf_int true (if qf_Z x % 2 ^ 1074 = 0 then qf_Z x / 2 ^ 1074 else qf_Z x / 2 ^ 1074 + 1) else qf_int false (qf_Z x / 2 ^ 1074)) = qf_int true (if qf_Z x % 2 ^ 1074 = 0 then qf_Z x / 2 ^ 1074 else qf_Z x / 2 ^ 1074 + 1) := if_pos hs
        rw [e0]
        have hadd : ∀ n, n + 1 ≤ 2 ^ 52 → FP.dadd (qf_int true (n + 1)) 4607182418800017408 = qf_int (decide (n ≠ 0)) n := fun n hn => by rw [qf_one, qf_i_addt (by omega)]
        by_cases h0 : qf_Z x % 2 ^ 1074 = 0
        · rw [if_pos h0]
          have hz := qf_lz hxF hs h2 h0
          have hq0 : qf_Z x / 2 ^ 1074 ≠ 0 := by
            intro h5
            have := qf_nzZ hx h
            rw [h5, h0] at hdm
            omega
          have k9 : qk 0 < qk 4602678819172646912 := by rw [qk_Z qf_N0 qf_hF.N (by decide +kernel) qf_hS, qf_hZ, show qf_Z 0 = 0 by decide +kernel]; exact Nat.two_pow_pos _
          refine main true _ (by omega) (by rw [hz]; exact qf_N0) (fun ev hev => qf_b56 hx (by rw [hz]; exact qf_N0) (by omega) ⟨decide (qf_Z x / 2 ^ 1074 - 1 ≠ 0), qf_Z x / 2 ^ 1074 - 1, by have := hadd (qf_Z x / 2 ^ 1074 - 1) (by omega); rw [show qf_Z x / 2 ^ 1074 - 1 + 1 = qf_Z x / 2 ^ 1074 by omega] at this; exact this, by omega, fun hc => absurd (Or.inl (by rw [hz]; exact k9)) hc⟩ (fun hc => by rw [hrn, h0, if_pos (by omega)]))
        · rw [if_neg h0]
          have hmain := main true (qf_Z x / 2 ^ 1074 + 1) (by omega)
          rcases qf_ln hxF hs h2 h0 with ⟨l1, l2, l3⟩ | ⟨l1, l2, l3⟩
          · have k1 := qk_Z l1.N qf_hF.N l2 qf_hS
            have k2 := qk_Z qf_hF.N l1.N qf_hS l2
            rw [l3, qf_hZ] at k1 k2
            refine hmain l1.N (fun ev hev => qf_b56 hx l1.N (by omega) ⟨_, _, hadd _ (by omega), by omega, fun hc => ?_⟩ (fun hc => ?_))
            · have n1 : ¬ 2 ^ 1074 - qf_Z x % 2 ^ 1074 < 2 ^ 1073 := fun q => hc (Or.inl (k1.mpr q))
              rw [hrn]
              by_cases h6 : 2 * (qf_Z x % 2 ^ 1074) < 2 ^ 1074
              · rw [if_pos h6]
              · rw [if_neg h6, if_neg (by omega)]
                have n2 : ¬ qk 4602678819172646912 < qk (FP.dsub x (qf_int true (qf_Z x / 2 ^ 1074 + 1))) := by rw [k2]; omega
                have n3 : ¬ qk (FP.dsub x (qf_int true (qf_Z x / 2 ^ 1074 + 1))) < qk 4602678819172646912 := by rw [k1]; exact n1
                have n4 : ¬ (qf_Z x / 2 ^ 1074 + 1) % 2 = 0 := fun q => hc (Or.inr ⟨by omega, hev.mpr q⟩)
                omega
            · rcases hc with hc | ⟨hc, hc2⟩
              · rw [k1] at hc
                rw [hrn, if_neg (by omega), if_pos (by omega)]
              · have n1 : ¬ 2 ^ 1074 - qf_Z x % 2 ^ 1074 < 2 ^ 1073 := by rw [← k1]; omega
                have n2 : ¬ 2 ^ 1073 < 2 ^ 1074 - qf_Z x % 2 ^ 1074 := by rw [← k2]; omega
                have n3 := hev.mp hc2
                rw [hrn, if_neg (by omega), if_neg (by omega)]
                omega
          · have hq0 : qf_Z x / 2 ^ 1074 = 0 := Nat.div_eq_of_lt (Nat.lt_of_lt_of_le l3 (Nat.pow_le_pow_right (by decide) (by decide)))
            have hm0 : qf_Z x % 2 ^ 1074 = qf_Z x := Nat.mod_eq_of_lt (Nat.lt_of_lt_of_le l3 (Nat.pow_le_pow_right (by decide) (by decide)))
            refine hmain l1 (fun ev hev => qf_b56 hx l1 (by omega) ⟨_, _, hadd _ (by omega), by omega, fun hc => ?_⟩ (fun hc => ?_))
            · rw [hrn, hm0, if_pos (by omega)]
            · rcases hc with hc | ⟨hc, hc2⟩
              · omega
              · have := hev.mp hc2
                rw [hq0] at this
                omega
    · rw [if_neg h2]
      by_cases c1 : 0 ≤ Op.cmpValue (FP.dcmp x 4841369599423283200) .l
      · rw [if_pos c1]
      · rw [if_neg c1, if_neg (fun q => h2 (hlt.mp ⟨c1, q⟩))]
end
