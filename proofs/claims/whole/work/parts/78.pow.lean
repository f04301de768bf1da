/-! the power of two in a double -/
theorem qk_pos {x : UInt64} (hx : qf_N x) (hs : qf_S x = false) : qk x = (x.toNat : Int) ∧ x.toNat < 2 ^ 63 := by
  unfold qf_S at hs
  rw [FP.Core.sgn_bits hx] at hs
  have h := of_decide_eq_false hs
  rw [qk_S, if_neg h]
  exact ⟨rfl, by omega⟩
theorem qk_Z {x y : UInt64} (hx : qf_N x) (hy : qf_N y) (sx : qf_S x = false) (sy : qf_S y = false) : qk x < qk y ↔ qf_Z x < qf_Z y := by
  obtain ⟨h1, h2⟩ := qk_pos hx sx
  obtain ⟨h3, h4⟩ := qk_pos hy sy
  unfold qf_Z
  rw [FP.Core.zmag_bits hx, FP.Core.zmag_bits hy, FP.Core.unitsOf_lt_iff, h1, h3]
  omega
theorem qf_1 : qf_p2 4607182418800017408 0 := by
  show qf_p2 (qf_pw 0) 0
  exact qf_pw_2 (by decide)
theorem qf_1S : qf_S 4607182418800017408 = false := qf_pw_S (k := 0) (by decide)
theorem qf_1Z : qf_Z 4607182418800017408 = 2 ^ 1074 := qf_pw_Z (k := 0) (by decide)
theorem qf_1N : qf_N 4607182418800017408 := (qf_pw_F (k := 0) (by decide)).N
theorem qf_2S : qf_S 4611686018427387904 = false := qf_pw_S (k := 1) (by decide)
theorem qf_2Z : qf_Z 4611686018427387904 = 2 ^ 1075 := qf_pw_Z (k := 1) (by decide)
theorem qf_2N : qf_N 4611686018427387904 := (qf_pw_F (k := 1) (by decide)).N
theorem qf_up53 {c j n : Nat} (hc : c < 2 ^ 53) (h : c * 2 ^ j < 2 ^ (53 + n)) : c * 2 ^ j ≤ (2 ^ 53 - 1) * 2 ^ n := by
  by_cases hj : j ≤ n
  · exact Nat.mul_le_mul (by omega) (Nat.pow_le_pow_right (by decide) hj)
  · obtain ⟨i, rfl⟩ : ∃ i, j = n + i := ⟨j - n, by omega⟩
    rw [Nat.pow_add, Nat.mul_comm (2 ^ n), ← Nat.mul_assoc] at h ⊢
    rw [Nat.pow_add] at h
    have h2 : c * 2 ^ i < 2 ^ 53 := Nat.lt_of_mul_lt_mul_right h
    exact Nat.mul_le_mul_right _ (by omega)
theorem qf_div_lt {x : UInt64} {k : Nat} (hx : qf_F x) (hs : qf_S x = false) (hk : k ≤ 1023) (h : qf_Z x < 2 ^ (1074 + k)) :
    qf_N (FP.ddiv x (qf_pw k)) ∧ qk (FP.ddiv x (qf_pw k)) < qk 4607182418800017408 := by
  obtain ⟨c, j, hv, h1, h2, h3, hz⟩ := qf_fin hx
  rw [hs] at hv
  have hr : FP.Core.val64 (FP.ddiv x (qf_pw k)) = FP.Core.roundRatio FP.Core.b64 false c (2 ^ 52) ((j : Int) - 1074 - ((k : Int) - 52)) := by
    show FP.Core.val64 (FP.Core.ddiv x (qf_pw k)) = _
    rw [FP.Core.val64_ddiv, qf_pw_2 hk, hv, qf_quo _ _ _ _ _ (by decide)]
  have hN : qf_N (FP.ddiv x (qf_pw k)) := by
    unfold qf_N
    rw [hr]
    exact FP.Core.roundRatio_ne_nan _ _ _ _ _
  have hS : qf_S (FP.ddiv x (qf_pw k)) = false := by
    unfold qf_S
    rw [hr]
    exact FP.Core.sgn_roundRatio _ _ _ _ _
  refine ⟨hN, ?_⟩
  rw [hz] at h
  have h5 := qf_up53 (n := 1021 + k) h1 (by rw [show 53 + (1021 + k) = 1074 + k by omega]; exact h)
  have h6 := FP.Core.mag_le FP.Core.good_b64 (n := (FP.ddiv x (qf_pw k)).toNat) (m := 1023 * 2 ^ 52 - 1) (e0 := -4000) hr (by decide) (by decide) (by omega) (by
    unfold FP.Core.inUnits FP.Core.unitsOf
    rw [FP.Core.tails_b64, FP.Core.qmin_b64, if_neg (by decide), show (1023 * 2 ^ 52 - 1) % 2 ^ 52 = 2 ^ 52 - 1 by decide, show (1023 * 2 ^ 52 - 1) / 2 ^ 52 - 1 = 1021 by decide, show 2 ^ 52 + (2 ^ 52 - 1) = 2 ^ 53 - 1 by decide, show ((-1074 : Int) - -4000).toNat = 2926 by decide, show ((j : Int) - 1074 - ((k : Int) - 52) - -4000).toNat = j + (2926 - k + 52) by omega, Nat.pow_add, ← Nat.mul_assoc]
    refine Nat.le_trans (Nat.mul_le_mul_right _ h5) (Nat.le_of_eq ?_)
    rw [Nat.mul_assoc, ← Nat.pow_add, Nat.mul_assoc (2 ^ 53 - 1), Nat.mul_assoc (2 ^ 53 - 1), ← Nat.pow_add, ← Nat.pow_add, show 1021 + k + (2926 - k + 52) = 1021 + 2926 + 52 by omega])
  rw [FP.Core.mag_toNat64] at h6
  obtain ⟨a1, a2⟩ := qk_pos hN hS
  rw [a1, (qk_pos qf_1N qf_1S).1, show (4607182418800017408 : UInt64).toNat = 1023 * 2 ^ 52 by decide]
  omega
theorem qf_mul_ge {x : UInt64} {k : Nat} (hx : qf_F x) (hs : qf_S x = false) (hk : k ≤ 1023) (h : 2 ^ 1075 ≤ qf_Z x * 2 ^ k) :
    qf_N (FP.dmul x (qf_pw k)) ∧ qk 4611686018427387904 ≤ qk (FP.dmul x (qf_pw k)) := by
  obtain ⟨c, j, hv, h1, h2, h3, hz⟩ := qf_fin hx
  rw [hs] at hv
  have hr : FP.Core.val64 (FP.dmul x (qf_pw k)) = FP.Core.roundRatio FP.Core.b64 false (c * 2 ^ 52) 1 ((j : Int) - 1074 + ((k : Int) - 52)) := by
    show FP.Core.val64 (FP.Core.dmul x (qf_pw k)) = _
    rw [FP.Core.val64_dmul, qf_pw_2 hk, hv]
    rfl
  have hN : qf_N (FP.dmul x (qf_pw k)) := by
    unfold qf_N
    rw [hr]
    exact FP.Core.roundRatio_ne_nan _ _ _ _ _
  have hS : qf_S (FP.dmul x (qf_pw k)) = false := by
    unfold qf_S
    rw [hr]
    exact FP.Core.sgn_roundRatio _ _ _ _ _
  refine ⟨hN, ?_⟩
  rw [hz] at h
  have h6 := FP.Core.mag_ge FP.Core.good_b64 (n := (FP.dmul x (qf_pw k)).toNat) (m := 1024 * 2 ^ 52) (e0 := -4000) hr (by decide) (by decide) (by omega) (by decide) (by
    unfold FP.Core.inUnits FP.Core.unitsOf
    rw [FP.Core.tails_b64, FP.Core.qmin_b64, if_neg (by decide), show (1024 * 2 ^ 52) % 2 ^ 52 = 0 by decide, show (1024 * 2 ^ 52) / 2 ^ 52 - 1 = 1023 by decide, Nat.add_zero, show ((-1074 : Int) - -4000).toNat = 2926 by decide, show ((j : Int) - 1074 + ((k : Int) - 52) - -4000).toNat = j + k + 2874 by omega, Nat.mul_one]
    have h7 : 2 ^ 1075 * 2 ^ 2926 ≤ c * 2 ^ j * 2 ^ k * 2 ^ 2926 := Nat.mul_le_mul_right _ h
    rw [← Nat.pow_add] at h7
    rw [← Nat.pow_add, ← Nat.pow_add]
    rw [Nat.mul_assoc, Nat.mul_assoc, ← Nat.pow_add, ← Nat.pow_add] at h7
    rw [Nat.mul_assoc, ← Nat.pow_add, show 52 + (j + k + 2874) = j + (k + 2926) by omega]
    exact h7)
  rw [FP.Core.mag_toNat64] at h6
  obtain ⟨a1, a2⟩ := qk_pos hN hS
  rw [a1, (qk_pos qf_2N qf_2S).1, show (4611686018427387904 : UInt64).toNat = 1024 * 2 ^ 52 by decide]
  omega
theorem qi_ss (P : Int32) (a b : Nat) : P - nI a - nI b = P - nI (a + b) := by
  rw [← nI_add, Int32.sub_eq_add_neg, Int32.sub_eq_add_neg, Int32.sub_eq_add_neg, Int32.neg_add, Int32.add_assoc, Int32.sub_eq_add_neg]
section
variable {w : qcW} {I : qTI} {L : qTL} {D : qTD} {R : qTR}
/-- up: dividing -/
theorem qf_po_up {T : Nat} {Y : Nat → UInt64} {P : Int32} (hY : ∀ d, d ≤ T → qf_F (Y d) ∧ qf_S (Y d) = false ∧ qf_Z (Y d) * 2 ^ d = qf_Z (Y 0)) (hb : 2 ^ (1074 + T) ≤ qf_Z (Y 0)) (hb2 : qf_Z (Y 0) < 2 ^ (1075 + T)) :
    ∀ (t n d : Nat), t ≤ 10 → t < n → d + qf_tk t (T - d) ≤ T → d ≤ T → fX8_powerOf_l9 w n (I, L, D, R, P + nI d, Y d, nI (2 ^ t / 2)) = some (P + nI (d + qf_tk t (T - d)), I, L, D, R) := by
  have hlo : ∀ d, d ≤ T → 2 ^ (1074 + (T - d)) ≤ qf_Z (Y d) ∧ qf_Z (Y d) < 2 ^ (1075 + (T - d)) := by
    intro d hd
    have h3 := (hY d hd).2.2
    rw [← h3, show 1074 + T = 1074 + (T - d) + d by omega, Nat.pow_add] at hb
    rw [← h3, show 1075 + T = 1075 + (T - d) + d by omega, Nat.pow_add _ _ d] at hb2
    exact ⟨Nat.le_of_mul_le_mul_right hb (Nat.two_pow_pos d), Nat.lt_of_mul_lt_mul_right hb2⟩
  intro t
  induction t with
  | zero =>
    intro n d _ hn _ _
    obtain ⟨n, rfl⟩ : ∃ m, n = m + 1 := ⟨n - 1, by omega⟩
    rw [fX8_powerOf_l9_s]
    unfold fX8_powerOf_b9
    rw [if_pos (by decide)]
    rfl
  | succ t ih =>
    intro n d ht hn hd hdT
    obtain ⟨n, rfl⟩ : ∃ m, n = m + 1 := ⟨n - 1, by omega⟩
    have e2 : 2 ^ (t + 1) / 2 = 2 ^ t := by rw [Nat.pow_succ]; omega
    have hp : 2 ^ t ≤ 512 := Nat.pow_le_pow_right (n := 2) (by decide) (show t ≤ 9 by omega)
    have hp0 := Nat.two_pow_pos t
    rw [e2, fX8_powerOf_l9_s]
    unfold fX8_powerOf_b9
    rw [if_neg (fun q => by have := (qi_lt (b := 1) (by omega) (by decide)).mp q; omega), qf_tw (by omega)]
    rw [qf_tk] at hd ⊢
    obtain ⟨y1, y2, y3⟩ := hY d hdT
    obtain ⟨l1, l2⟩ := hlo d hdT
    show (qc_gd (qc_n64 (FP.ddiv (Y d) (qf_pw (2 ^ t)))) <| _) = _
    by_cases hc : 2 ^ t ≤ T - d
    · rw [if_pos hc] at hd ⊢
      obtain ⟨z1, z2, z3⟩ := hY (d + 2 ^ t) (by omega)
      have hq : FP.ddiv (Y d) (qf_pw (2 ^ t)) = Y (d + 2 ^ t) := by
        refine qf_div y1 (qf_pw_2 (by omega)) z1 (by rw [y2, z2]) ?_
        apply qf_pow_cancel (k := d)
        rw [y3, ← z3, Nat.mul_assoc, ← Nat.pow_add, Nat.add_comm]
      rw [hq, (qf_n64 _).mpr z1.N]
      have hge : ¬ Op.cmpValue (FP.dcmp (Y (d + 2 ^ t)) 4607182418800017408) .l < 0 := by
        rw [qk_lt z1.N qf_1N, qk_Z z1.N qf_1N z2 qf_1S, qf_1Z]
        have h5 := (hlo (d + 2 ^ t) (by omega)).1
        have h6 : 2 ^ 1074 ≤ 2 ^ (1074 + (T - (d + 2 ^ t))) := Nat.pow_le_pow_right (by decide) (by omega)
        exact Nat.not_lt.mpr (Nat.le_trans h6 h5)
      show (if Op.cmpValue (FP.dcmp (Y (d + 2 ^ t)) 4607182418800017408) .l < 0 then _ else _) = _
      rw [if_neg hge]
      show fX8_powerOf_l9 w n (I, L, D, R, P + nI d + nI (2 ^ t), Y (d + 2 ^ t), nI (2 ^ t) / 2) = _
      rw [qi_div2 _ (by omega), Int32.add_assoc, nI_add, ih n (d + 2 ^ t) (by omega) (by omega) (by rw [show T - (d + 2 ^ t) = T - d - 2 ^ t by omega]; omega) (by omega), show T - (d + 2 ^ t) = T - d - 2 ^ t by omega, Nat.add_assoc]
    · rw [if_neg hc] at hd ⊢
      have hz : qf_Z (Y d) < 2 ^ (1074 + 2 ^ t) := Nat.lt_of_lt_of_le l2 (Nat.pow_le_pow_right (by decide) (by omega))
      obtain ⟨q1, q2⟩ := qf_div_lt y1 y2 (by omega) hz
      rw [(qf_n64 _).mpr q1]
      show (if Op.cmpValue (FP.dcmp (FP.ddiv (Y d) (qf_pw (2 ^ t))) 4607182418800017408) .l < 0 then _ else _) = _
      rw [if_pos ((qk_lt q1 qf_1N).mpr q2)]
      have h7 : 2 ^ 1075 ≤ qf_Z (Y d) * 2 ^ (2 ^ t) := by
        have h8 : 2 ^ 1074 * 2 ^ 1 ≤ qf_Z (Y d) * 2 ^ (2 ^ t) := Nat.mul_le_mul (Nat.le_trans (Nat.pow_le_pow_right (by decide) (by omega)) l1) (Nat.pow_le_pow_right (by decide) (by omega))
        rw [← Nat.pow_add] at h8
        exact h8
      obtain ⟨r1, r2⟩ := qf_mul_ge y1 y2 (by omega) h7
      rw [(qf_n64 _).mpr r1]
      show (if 0 ≤ Op.cmpValue (FP.dcmp (FP.dmul (Y d) (qf_pw (2 ^ t))) 4611686018427387904) .g then _ else _) = _
      rw [if_pos ((qk_ge r1 qf_2N).mpr r2)]
      show fX8_powerOf_l9 w n (I, L, D, R, P + nI d, Y d, nI (2 ^ t) / 2) = _
      rw [qi_div2 _ (by omega)]
      exact ih n d (by omega) (by omega) hd hdT
/-- down: multiplying -/
theorem qf_po_dn {T : Nat} {Y : Nat → UInt64} {P : Int32} (hY : ∀ d, d ≤ T → qf_F (Y d) ∧ qf_S (Y d) = false ∧ qf_Z (Y d) = qf_Z (Y 0) * 2 ^ d) (hb : 2 ^ 1074 ≤ qf_Z (Y 0) * 2 ^ T) (hb2 : qf_Z (Y 0) * 2 ^ T < 2 ^ 1075) :
    ∀ (t n d : Nat), t ≤ 10 → t < n → d + qf_tk t (T - d) ≤ T → d ≤ T → fX8_powerOf_l9 w n (I, L, D, R, P - nI d, Y d, nI (2 ^ t / 2)) = some (P - nI (d + qf_tk t (T - d)), I, L, D, R) := by
  have hlo : ∀ d, d ≤ T → 2 ^ 1074 ≤ qf_Z (Y d) * 2 ^ (T - d) ∧ qf_Z (Y d) * 2 ^ (T - d) < 2 ^ 1075 := by
    intro d hd
    rw [(hY d hd).2.2, Nat.mul_assoc, ← Nat.pow_add, show d + (T - d) = T by omega]
    exact ⟨hb, hb2⟩
  intro t
  induction t with
  | zero =>
    intro n d _ hn _ _
    obtain ⟨n, rfl⟩ : ∃ m, n = m + 1 := ⟨n - 1, by omega⟩
    rw [fX8_powerOf_l9_s]
    unfold fX8_powerOf_b9
    rw [if_pos (by decide)]
    rfl
  | succ t ih =>
    intro n d ht hn hd hdT
    obtain ⟨n, rfl⟩ : ∃ m, n = m + 1 := ⟨n - 1, by omega⟩
    have e2 : 2 ^ (t + 1) / 2 = 2 ^ t := by rw [Nat.pow_succ]; omega
    have hp : 2 ^ t ≤ 512 := Nat.pow_le_pow_right (n := 2) (by decide) (show t ≤ 9 by omega)
    have hp0 := Nat.two_pow_pos t
    rw [e2, fX8_powerOf_l9_s]
    unfold fX8_powerOf_b9
    rw [if_neg (fun q => by have := (qi_lt (b := 1) (by omega) (by decide)).mp q; omega), qf_tw (by omega)]
    rw [qf_tk] at hd ⊢
    obtain ⟨y1, y2, y3⟩ := hY d hdT
    obtain ⟨l1, l2⟩ := hlo d hdT
    show (qc_gd (qc_n64 (FP.ddiv (Y d) (qf_pw (2 ^ t)))) <| _) = _
    have hz : qf_Z (Y d) < 2 ^ (1074 + 2 ^ t) := by
      have h8 : qf_Z (Y d) * 1 ≤ qf_Z (Y d) * 2 ^ (T - d) := Nat.mul_le_mul_left _ (Nat.two_pow_pos _)
      have h9 : 2 ^ 1075 ≤ 2 ^ (1074 + 2 ^ t) := Nat.pow_le_pow_right (by decide) (by omega)
      rw [Nat.mul_one] at h8
      exact Nat.lt_of_le_of_lt h8 (Nat.lt_of_lt_of_le l2 h9)
    obtain ⟨q1, q2⟩ := qf_div_lt y1 y2 (by omega) hz
    rw [(qf_n64 _).mpr q1]
    show (if Op.cmpValue (FP.dcmp (FP.ddiv (Y d) (qf_pw (2 ^ t))) 4607182418800017408) .l < 0 then _ else _) = _
    rw [if_pos ((qk_lt q1 qf_1N).mpr q2)]
    by_cases hc : 2 ^ t ≤ T - d
    · rw [if_pos hc] at hd ⊢
      obtain ⟨z1, z2, z3⟩ := hY (d + 2 ^ t) (by omega)
      have hq : FP.dmul (Y d) (qf_pw (2 ^ t)) = Y (d + 2 ^ t) := by
        refine qf_mul y1 (qf_pw_2 (by omega)) z1 (by rw [y2, z2]) ?_
        rw [y3, z3, Nat.mul_assoc, ← Nat.pow_add]
      rw [hq, (qf_n64 _).mpr z1.N]
      have hge : ¬ 0 ≤ Op.cmpValue (FP.dcmp (Y (d + 2 ^ t)) 4611686018427387904) .g := by
        rw [qk_ge z1.N qf_2N, Int.not_le, qk_Z z1.N qf_2N z2 qf_2S, qf_2Z]
        have h5 := (hlo (d + 2 ^ t) (by omega)).2
        have h8 : qf_Z (Y (d + 2 ^ t)) * 1 ≤ qf_Z (Y (d + 2 ^ t)) * 2 ^ (T - (d + 2 ^ t)) := Nat.mul_le_mul_left _ (Nat.two_pow_pos _)
        rw [Nat.mul_one] at h8
        exact Nat.lt_of_le_of_lt h8 h5
      show (if 0 ≤ Op.cmpValue (FP.dcmp (Y (d + 2 ^ t)) 4611686018427387904) .g then _ else _) = _
      rw [if_neg hge]
      show fX8_powerOf_l9 w n (I, L, D, R, P - nI d - nI (2 ^ t), Y (d + 2 ^ t), nI (2 ^ t) / 2) = _
      rw [qi_div2 _ (by omega), qi_ss, ih n (d + 2 ^ t) (by omega) (by omega) (by rw [show T - (d + 2 ^ t) = T - d - 2 ^ t by omega]; omega) (by omega), show T - (d + 2 ^ t) = T - d - 2 ^ t by omega, Nat.add_assoc]
    · rw [if_neg hc] at hd ⊢
      have h7 : 2 ^ 1075 ≤ qf_Z (Y d) * 2 ^ (2 ^ t) := by
        have h8 : 2 ^ 1074 * 2 ^ 1 ≤ qf_Z (Y d) * 2 ^ (T - d) * 2 ^ 1 := Nat.mul_le_mul_right _ l1
        rw [← Nat.pow_add, Nat.mul_assoc, ← Nat.pow_add] at h8
        exact Nat.le_trans h8 (Nat.mul_le_mul_left _ (Nat.pow_le_pow_right (by decide) (by omega)))
      obtain ⟨r1, r2⟩ := qf_mul_ge y1 y2 (by omega) h7
      rw [(qf_n64 _).mpr r1]
      show (if 0 ≤ Op.cmpValue (FP.dcmp (FP.dmul (Y d) (qf_pw (2 ^ t))) 4611686018427387904) .g then _ else _) = _
      rw [if_pos ((qk_ge r1 qf_2N).mpr r2)]
      show fX8_powerOf_l9 w n (I, L, D, R, P - nI d, Y d, nI (2 ^ t) / 2) = _
      rw [qi_div2 _ (by omega)]
      exact ih n d (by omega) (by omega) hd hdT
theorem qf_po_up2 {T : Nat} {Y : Nat → UInt64} (hY : ∀ d, d ≤ T → qf_F (Y d) ∧ qf_S (Y d) = false ∧ qf_Z (Y d) * 2 ^ d = qf_Z (Y 0)) (hb : 2 ^ (1074 + T) ≤ qf_Z (Y 0)) (hb2 : qf_Z (Y 0) < 2 ^ (1075 + T)) (hT : T ≤ 1023) : fX8_powerOf_l9 w qcF (I, L, D, R, 0, Y 0, 512) = some (nI T, I, L, D, R) := by
  have t1 : qf_tk 10 (T - 0) = T := by rw [qf_tk_eq 10]; omega
  have hF2 : 10 < qcF := by unfold qcF; omega
  have h1 := qf_po_up (w := w) (I := I) (L := L) (D := D) (R := R) (P := 0) hY hb hb2 10 qcF 0 (by omega) hF2 (by rw [t1]; omega) (by omega)
  rw [t1, show nI (2 ^ 10 / 2) = 512 by decide, show (0 : Int32) + nI 0 = 0 by decide, Nat.zero_add, Int32.zero_add] at h1
  exact h1
theorem qf_po_dn2 {T : Nat} {Y : Nat → UInt64} (hY : ∀ d, d ≤ T → qf_F (Y d) ∧ qf_S (Y d) = false ∧ qf_Z (Y d) = qf_Z (Y 0) * 2 ^ d) (hb : 2 ^ 1074 ≤ qf_Z (Y 0) * 2 ^ T) (hb2 : qf_Z (Y 0) * 2 ^ T < 2 ^ 1075) : fX8_powerOf_l9 w qcF (I, L, D, R, 0, Y 0, 512) = some (0 - nI (min T 1023), I, L, D, R) := by
  have t1 : qf_tk 10 (T - 0) = min T 1023 := qf_tk_eq 10 _
  have hF2 : 10 < qcF := by unfold qcF; omega
  have h1 := qf_po_dn (w := w) (I := I) (L := L) (D := D) (R := R) (P := 0) hY hb hb2 10 qcF 0 (by omega) hF2 (by rw [t1]; omega) (by omega)
  rw [t1, show nI (2 ^ 10 / 2) = 512 by decide, show (0 : Int32) - nI 0 = 0 by decide, Nat.zero_add] at h1
  exact h1
/-- the power: where the magnitude lies -/
theorem qf_po {c k b : Nat} (hc : c < 2 ^ 53) (hk : k ≤ 2045) (h1 : 2 ^ b ≤ c * 2 ^ k) (h2 : c * 2 ^ k < 2 ^ (b + 1)) (hb : b ≤ 2097) : fX8_powerOf w I L D R (qf_mk false c k) = some (nI (max b 51) - nI 1074, I, L, D, R) := by
  have hcb : b < 53 + k := by
    have h3 : c * 2 ^ k < 2 ^ 53 * 2 ^ k := Nat.mul_lt_mul_of_pos_right hc (Nat.two_pow_pos k)
    rw [← Nat.pow_add] at h3
    have h4 := Nat.lt_of_le_of_lt h1 h3
    exact (Nat.pow_lt_pow_iff_right (by decide)).mp h4
  have hck : k ≤ b := by
    have hc0 : 1 ≤ c := by
      rcases Nat.eq_zero_or_pos c with h | h
      · rw [h, Nat.zero_mul] at h1
        have := Nat.two_pow_pos b
        omega
      · exact h
    have h3 : 1 * 2 ^ k ≤ c * 2 ^ k := Nat.mul_le_mul_right _ hc0
    rw [Nat.one_mul] at h3
    have h4 := Nat.lt_of_le_of_lt h3 h2
    have := (Nat.pow_lt_pow_iff_right (a := 2) (by decide)).mp h4
    omega
  unfold fX8_powerOf
  obtain ⟨z1, z2, z3⟩ := qf_mk_of (s := false) hc hk
  by_cases h : 1074 ≤ b
  · have h5 := qf_po_up2 (w := w) (I := I) (L := L) (D := D) (R := R) (T := b - 1074) (Y := fun d => qf_mk false c (k - d)) (fun d hd => by
      obtain ⟨a1, a2, a3⟩ := qf_mk_of (s := false) (k := k - d) hc (by omega)
      refine ⟨a1, a2, ?_⟩
      show _ = qf_Z (qf_mk false c (k - 0))
      rw [a3, Nat.sub_zero, z3, Nat.mul_assoc, ← Nat.pow_add, show k - d + d = k by omega]) (by
      show _ ≤ qf_Z (qf_mk false c (k - 0))
      rw [Nat.sub_zero, z3, show 1074 + (b - 1074) = b by omega]
      exact h1) (by
      show qf_Z (qf_mk false c (k - 0)) < _
      rw [Nat.sub_zero, z3, show 1075 + (b - 1074) = b + 1 by omega]
      exact h2) (by omega)
    rw [show max b 51 = b by omega, qi_sub h]
    exact h5
  · have h5 := qf_po_dn2 (w := w) (I := I) (L := L) (D := D) (R := R) (T := 1074 - b) (Y := fun d => qf_mk false c (k + d)) (fun d hd => by
      obtain ⟨a1, a2, a3⟩ := qf_mk_of (s := false) (k := k + d) hc (by omega)
      refine ⟨a1, a2, ?_⟩
      show _ = qf_Z (qf_mk false c (k + 0)) * _
      rw [a3, Nat.add_zero, z3, Nat.mul_assoc, ← Nat.pow_add]) (by
      show _ ≤ qf_Z (qf_mk false c (k + 0)) * _
      rw [Nat.add_zero, z3]
      have h6 : 2 ^ b * 2 ^ (1074 - b) ≤ c * 2 ^ k * 2 ^ (1074 - b) := Nat.mul_le_mul_right _ h1
      rw [← Nat.pow_add, show b + (1074 - b) = 1074 by omega] at h6
      exact h6) (by
      show qf_Z (qf_mk false c (k + 0)) * _ < _
      rw [Nat.add_zero, z3]
      have h6 : c * 2 ^ k * 2 ^ (1074 - b) < 2 ^ (b + 1) * 2 ^ (1074 - b) := Nat.mul_lt_mul_of_pos_right h2 (Nat.two_pow_pos _)
      rw [← Nat.pow_add, show b + 1 + (1074 - b) = 1075 by omega] at h6
      exact h6)
    rw [qi_int (b := max b 51) (by omega) (by decide), show 1074 - max b 51 = min (1074 - b) 1023 by omega]
    rw [Int32.zero_sub] at h5
    exact h5
end
