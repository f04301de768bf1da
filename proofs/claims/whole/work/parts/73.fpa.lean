def qf_pw (k : Nat) : UInt64 := UInt64.ofNat ((1023 + k) * 2 ^ 52)
theorem qf_pw_2 {k : Nat} (h : k ≤ 1023) : qf_p2 (qf_pw k) k := by
  unfold qf_p2 FP.Core.val64 qf_pw
  have e0 : (UInt64.ofNat ((1023 + k) * 2 ^ 52)).toNat = (1023 + k) * 2 ^ 52 := by
    rw [UInt64.toNat_ofNat']
    exact Nat.mod_eq_of_lt (by omega)
  rw [e0]
  have e1 : FP.Core.b64.tails = 2 ^ 52 := rfl
  have e2 : FP.Core.b64.exps = 2048 := rfl
  have e3 : FP.Core.b64.qmin = -1074 := rfl
  have t0 : FP.Core.fieldT FP.Core.b64 ((1023 + k) * 2 ^ 52) = 0 := by
    unfold FP.Core.fieldT
    rw [e1]
    exact Nat.mul_mod_left _ _
  have d0 : (1023 + k) * 2 ^ 52 / 2 ^ 52 = 1023 + k := Nat.mul_div_cancel _ (by decide)
  have t1 : FP.Core.fieldE FP.Core.b64 ((1023 + k) * 2 ^ 52) = 1023 + k := by
    unfold FP.Core.fieldE
    rw [e1, e2, d0]
    exact Nat.mod_eq_of_lt (by omega)
  have t2 : FP.Core.fieldS FP.Core.b64 ((1023 + k) * 2 ^ 52) = false := by
    unfold FP.Core.fieldS
    rw [e1, e2, d0, Nat.div_eq_of_lt (by omega)]
    rfl
  unfold FP.Core.decode
  rw [t0, t1, t2, e2, e3, e1, if_neg (by omega), if_neg (by omega)]
  congr 1
  omega
theorem qf_pw_F {k : Nat} (h : k ≤ 1023) : qf_F (qf_pw k) := ⟨_, _, _, qf_pw_2 h⟩
theorem qf_pw_S {k : Nat} (h : k ≤ 1023) : qf_S (qf_pw k) = false := by
  unfold qf_S
  rw [qf_pw_2 h]
  rfl
theorem qf_pw_Z {k : Nat} (h : k ≤ 1023) : qf_Z (qf_pw k) = 2 ^ (k + 1074) := by
  unfold qf_Z
  rw [qf_pw_2 h]
  show 2 ^ 52 * 2 ^ ((k : Int) - 52 - FP.Core.b64.qmin).toNat = _
  have e3 : FP.Core.b64.qmin = -1074 := rfl
  rw [e3, ← Nat.pow_add, show 52 + ((k : Int) - 52 - -1074).toNat = k + 1074 by omega]
theorem qf_pw_mul {j k : Nat} (h : j + k ≤ 1023) : FP.dmul (qf_pw j) (qf_pw k) = qf_pw (j + k) := by
  refine qf_mul (qf_pw_F (by omega)) (qf_pw_2 (by omega)) (qf_pw_F h) ?_ ?_
  · rw [qf_pw_S h, qf_pw_S (by omega)]
  · rw [qf_pw_Z h, qf_pw_Z (by omega), ← Nat.pow_add]
    congr 1
    omega
theorem qf_tw_l {w : qcW} {I : qTI} {L : qTL} {D : qTD} {R : qTR} (t : Nat) (ht : t ≤ 9) : ∀ (n i : Nat), i ≤ t → t - i < n → fX8_twoTo_l6 w n (I, L, D, R, nI (2 ^ t), qf_pw (2 ^ i), nI (2 ^ i)) = some (qf_pw (2 ^ t), I, L, D, R) := by
  have pl : ∀ i, i ≤ 9 → 2 ^ i ≤ 512 := fun i hi => Nat.pow_le_pow_right (by decide) hi
  intro n
  induction n with
  | zero => intro i _ h; omega
  | succ n ih =>
    intro i hi hn
    show fX8_twoTo_b6 w (fX8_twoTo_l6 w n) I L D R (nI (2 ^ t)) (qf_pw (2 ^ i)) (nI (2 ^ i)) = _
    unfold fX8_twoTo_b6
    have p1 := pl i (by omega)
    have p2 := pl t ht
    by_cases h : i = t
    · subst h
      rw [if_pos (Int32.le_refl _)]
    · have p3 := pl (i + 1) (by omega)
      have hlt : 2 ^ i < 2 ^ t := Nat.pow_lt_pow_right (by decide) (by omega)
      rw [if_neg (fun q => by have := (qi_le (by omega) (by omega)).mp q; omega)]
      have hm : FP.dmul (qf_pw (2 ^ i)) (qf_pw (2 ^ i)) = qf_pw (2 ^ (i + 1)) := by
        rw [qf_pw_mul (by omega), Nat.pow_succ, Nat.mul_two]
      rw [hm]
      have hg : qc_n64 (qf_pw (2 ^ (i + 1))) = true := (qf_n64 _).mpr (qf_pw_F (by omega)).N
      rw [hg]
      show fX8_twoTo_l6 w n (I, L, D, R, nI (2 ^ t), qf_pw (2 ^ (i + 1)), nI (2 ^ i) * 2) = _
      rw [show nI (2 ^ i) * 2 = nI (2 ^ (i + 1)) from by rw [Nat.pow_succ]; exact qi_mul _ 2]
      exact ih (i + 1) (by omega) (by omega)
theorem qf_tw {w : qcW} {I : qTI} {L : qTL} {D : qTD} {R : qTR} {t : Nat} (ht : t ≤ 9) : fX8_twoTo w I L D R (nI (2 ^ t)) = some (qf_pw (2 ^ t), I, L, D, R) := by
  have h := qf_tw_l (w := w) (I := I) (L := L) (D := D) (R := R) t ht qcF 0 (by omega) (by unfold qcF; omega)
  exact h
