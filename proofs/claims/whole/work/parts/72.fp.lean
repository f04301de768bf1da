/-! doubles by sign and magnitude, in units of the least one -/
def qf_N (x : UInt64) : Prop := FP.Core.val64 x ≠ .nan
def qf_S (x : UInt64) : Bool := FP.Core.sgn (FP.Core.val64 x)
def qf_Z (x : UInt64) : Nat := FP.Core.zmag FP.Core.b64 (FP.Core.val64 x)
def qf_F (x : UInt64) : Prop := FP.Core.DFin x
theorem qf_F.N {x : UInt64} (h : qf_F x) : qf_N x := FP.Core.DFin.ne_nan h
theorem qf_n64 (x : UInt64) : qc_n64 x = true ↔ qf_N x := by
  unfold qc_n64 qf_N
  rw [decide_eq_true_eq, UInt64.le_iff_toNat_le, FP.Core.mask_toNat, FP.Core.ne_nan]
  exact Iff.rfl
theorem qf_eq {x y : UInt64} (hx : qf_N x) (hy : qf_N y) (hs : qf_S x = qf_S y) (hz : qf_Z x = qf_Z y) : x = y := by
  unfold qf_S at hs
  unfold qf_Z at hz
  rw [FP.Core.sgn_bits hx, FP.Core.sgn_bits hy, decide_eq_decide] at hs
  rw [FP.Core.zmag_bits hx, FP.Core.zmag_bits hy] at hz
  have hm : x.toNat % 2 ^ 63 = y.toNat % 2 ^ 63 := by
    rcases Nat.lt_trichotomy (x.toNat % 2 ^ 63) (y.toNat % 2 ^ 63) with h | h | h
    · have := FP.Core.unitsOf_lt_iff (f := FP.Core.b64).mpr h
      omega
    · exact h
    · have := FP.Core.unitsOf_lt_iff (f := FP.Core.b64).mpr h
      omega
  have h1 := x.toNat_lt
  have h2 := y.toNat_lt
  apply UInt64.toNat_inj.mp
  by_cases h : 2 ^ 63 ≤ x.toNat
  · have := hs.mp h
    omega
  · have h3 : ¬ 2 ^ 63 ≤ y.toNat := fun q => h (hs.mpr q)
    omega
theorem qf_fin {x : UInt64} (h : qf_F x) : ∃ (c k : Nat), FP.Core.val64 x = .fin (qf_S x) c ((k : Int) - 1074) ∧ c < 2 ^ 53 ∧ k ≤ 2045 ∧ (k = 0 ∨ 2 ^ 52 ≤ c) ∧ qf_Z x = c * 2 ^ k := by
  obtain ⟨s, c, q, hv⟩ := h
  have hf := FP.Core.val64_fits x
  rw [hv] at hf
  obtain ⟨h1, h2, h3, h4⟩ := hf
  have e1 : FP.Core.b64.qmin = -1074 := rfl
  have e2 : FP.Core.b64.qmax = 971 := rfl
  have e3 : FP.Core.b64.p = 53 := rfl
  have e4 : FP.Core.b64.tails = 2 ^ 52 := rfl
  rw [e1] at h2 h4
  rw [e2] at h3
  rw [e3] at h1
  rw [e4] at h4
  refine ⟨c, (q + 1074).toNat, ?_, h1, by omega, ?_, ?_⟩
  · unfold qf_S
    rw [hv, show (((q + 1074).toNat : Nat) : Int) - 1074 = q by omega]
    rfl
  · rcases h4 with h4 | h4
    · exact Or.inl (by omega)
    · exact Or.inr h4
  · unfold qf_Z
    rw [hv]
    show c * 2 ^ (q - FP.Core.b64.qmin).toNat = _
    rw [e1, show q - -1074 = q + 1074 by omega]
theorem qf_pow_cancel {a b k : Nat} (h : a * 2 ^ k = b * 2 ^ k) : a = b := Nat.eq_of_mul_eq_mul_right (Nat.two_pow_pos k) h
/-- a ratio whose value is a double is that double -/
theorem qf_round {s : Bool} {A B : Nat} {e : Int} {y : UInt64} (hB : 0 < B) (hy : qf_F y) (hs : qf_S y = s) (h : A * 2 ^ (e + 1074).toNat = qf_Z y * B * 2 ^ (-1074 - e).toNat) : FP.Core.roundRatio FP.Core.b64 s A B e = FP.Core.val64 y := by
  obtain ⟨c, k, hv, h1, h2, h3, hz⟩ := qf_fin hy
  have hfit := FP.Core.val64_fits y
  rw [hv, hs] at hfit
  rw [hv, hs]
  refine FP.Core.roundRatio_exact FP.Core.good_b64 hB hfit ?_
  rw [hz] at h
  by_cases he : -1074 ≤ e
  · have z : (-1074 - e).toNat = 0 := by omega
    rw [z, Nat.pow_zero, Nat.mul_one] at h
    by_cases hk : (k : Int) - 1074 ≤ e
    · have z2 : ((k : Int) - 1074 - e).toNat = 0 := by omega
      have z3 : (e + 1074).toNat = (e - ((k : Int) - 1074)).toNat + k := by omega
      rw [z2, Nat.pow_zero, Nat.mul_one]
      rw [z3, Nat.pow_add] at h
      apply qf_pow_cancel (k := k)
      rw [Nat.mul_assoc, h, Nat.mul_assoc, Nat.mul_assoc, Nat.mul_comm B]
    · have z2 : (e - ((k : Int) - 1074)).toNat = 0 := by omega
      have z3 : k = ((k : Int) - 1074 - e).toNat + (e + 1074).toNat := by omega
      rw [z2, Nat.pow_zero, Nat.mul_one]
      apply qf_pow_cancel (k := (e + 1074).toNat)
      rw [h, Nat.mul_assoc (c * B), ← Nat.pow_add, ← z3, Nat.mul_assoc, Nat.mul_assoc, Nat.mul_comm B]
  · have z : (e + 1074).toNat = 0 := by omega
    have z2 : (e - ((k : Int) - 1074)).toNat = 0 := by omega
    have z3 : ((k : Int) - 1074 - e).toNat = k + (-1074 - e).toNat := by omega
    rw [z, Nat.pow_zero, Nat.mul_one] at h
    rw [z2, z3, Nat.pow_zero, Nat.mul_one, h, Nat.pow_add, Nat.mul_assoc, Nat.mul_assoc, Nat.mul_assoc, ← Nat.mul_assoc (2 ^ k), Nat.mul_comm (2 ^ k) B, Nat.mul_assoc]
/-- the double of that sign and magnitude -/
def qf_mk (s : Bool) (c k : Nat) : UInt64 := FP.Core.of64 (FP.Core.round FP.Core.b64 (.fin s c ((k : Int) - 1074)))
theorem qf_mk_of {s : Bool} {c k : Nat} (hc : c < 2 ^ 53) (hk : k ≤ 2045) : qf_F (qf_mk s c k) ∧ qf_S (qf_mk s c k) = s ∧ qf_Z (qf_mk s c k) = c * 2 ^ k := by
  have e1 : FP.Core.b64.qmin = -1074 := rfl
  have e2 : FP.Core.b64.qmax = 971 := rfl
  have e3 : FP.Core.b64.p = 53 := rfl
  obtain ⟨c', q', h1, h2⟩ := FP.Core.round_exact FP.Core.good_b64 s (c := c) (q := (k : Int) - 1074) (by rw [e3]; exact hc) (by rw [e1]; omega) (by rw [e2]; omega)
  have hv : FP.Core.val64 (qf_mk s c k) = .fin s c' q' := by
    unfold qf_mk
    rw [FP.Core.val64_of64 (FP.Core.round_fits FP.Core.good_b64 _), h1]
  refine ⟨⟨s, c', q', hv⟩, ?_, ?_⟩
  · unfold qf_S
    rw [hv]
    rfl
  · unfold qf_Z
    rw [hv]
    show FP.Core.inUnits c' q' FP.Core.b64.qmin = _
    rw [h2, e1]
    unfold FP.Core.inUnits
    rw [show ((k : Int) - 1074 - -1074).toNat = k by omega]
theorem qf_fin_eq {x y : UInt64} (hx : qf_F x) (hy : qf_F y) (hs : qf_S x = qf_S y) (hz : qf_Z x = qf_Z y) : x = y := qf_eq hx.N hy.N hs hz
theorem qf_val {x y : UInt64} (hy : qf_N y) (h : FP.Core.val64 x = FP.Core.val64 y) : x = y := (FP.Core.val64_inj hy h.symm).symm
/-- a power of two, as a double -/
def qf_p2 (x : UInt64) (k : Nat) : Prop := FP.Core.val64 x = .fin false (2 ^ 52) ((k : Int) - 52)
theorem qf_mul {x p y : UInt64} {k : Nat} (hx : qf_F x) (hp : qf_p2 p k) (hy : qf_F y) (hs : qf_S y = qf_S x) (hz : qf_Z y = qf_Z x * 2 ^ k) : FP.dmul x p = y := by
  obtain ⟨c, j, hv, h1, h2, h3, hzx⟩ := qf_fin hx
  apply qf_val hy.N
  show FP.Core.val64 (FP.Core.dmul x p) = _
  rw [FP.Core.val64_dmul, hp, hv]
  show FP.Core.roundRatio FP.Core.b64 (qf_S x != false) (c * 2 ^ 52) 1 ((j : Int) - 1074 + ((k : Int) - 52)) = _
  rw [show (qf_S x != false) = qf_S x by cases qf_S x <;> rfl]
  refine qf_round (by decide) hy hs ?_
  rw [hz, hzx, Nat.mul_one]
  by_cases he : 52 ≤ j + k
  · have z : (-1074 - ((j : Int) - 1074 + ((k : Int) - 52))).toNat = 0 := by omega
    have z2 : ((j : Int) - 1074 + ((k : Int) - 52) + 1074).toNat = j + k - 52 := by omega
    rw [z, z2, Nat.pow_zero, Nat.mul_one, Nat.mul_assoc, ← Nat.pow_add, show 52 + (j + k - 52) = j + k by omega, Nat.mul_assoc, ← Nat.pow_add]
  · have z : ((j : Int) - 1074 + ((k : Int) - 52) + 1074).toNat = 0 := by omega
    have z2 : (-1074 - ((j : Int) - 1074 + ((k : Int) - 52))).toNat = 52 - (j + k) := by omega
    rw [z, z2, Nat.pow_zero, Nat.mul_one, Nat.mul_assoc c, ← Nat.pow_add, Nat.mul_assoc, ← Nat.pow_add, show j + k + (52 - (j + k)) = 52 by omega]
theorem qf_quo (s : Bool) (c d : Nat) (q r : Int) (hd : d ≠ 0) : FP.Core.quotient FP.Core.b64 (.fin s c q) (.fin false d r) = FP.Core.roundRatio FP.Core.b64 s c d (q - r) := by
  show (if d = 0 then (if c = 0 then FP.Core.Datum.nan else .inf (s != false)) else FP.Core.roundRatio FP.Core.b64 (s != false) c d (q - r)) = _
  rw [if_neg hd]
  cases s <;> rfl
theorem qf_div {x p y : UInt64} {k : Nat} (hx : qf_F x) (hp : qf_p2 p k) (hy : qf_F y) (hs : qf_S y = qf_S x) (hz : qf_Z y * 2 ^ k = qf_Z x) : FP.ddiv x p = y := by
  obtain ⟨c, j, hv, h1, h2, h3, hzx⟩ := qf_fin hx
  apply qf_val hy.N
  show FP.Core.val64 (FP.Core.ddiv x p) = _
  rw [FP.Core.val64_ddiv, hp, hv, qf_quo _ _ _ _ _ (by decide)]
  refine qf_round (by decide) hy hs ?_
  rw [hzx] at hz
  apply qf_pow_cancel (k := k)
  by_cases he : k ≤ j + 52
  · have z : (-1074 - ((j : Int) - 1074 - ((k : Int) - 52))).toNat = 0 := by omega
    have z2 : ((j : Int) - 1074 - ((k : Int) - 52) + 1074).toNat = j + 52 - k := by omega
    rw [z, z2, Nat.pow_zero, Nat.mul_one, Nat.mul_assoc, ← Nat.pow_add, show j + 52 - k + k = j + 52 by omega, Nat.mul_assoc, Nat.mul_comm (2 ^ 52), ← Nat.mul_assoc, hz, Nat.mul_assoc, ← Nat.pow_add]
  · have z : ((j : Int) - 1074 - ((k : Int) - 52) + 1074).toNat = 0 := by omega
    have z2 : (-1074 - ((j : Int) - 1074 - ((k : Int) - 52))).toNat = k - (j + 52) := by omega
    have hz2 : qf_Z y * 2 ^ (k - j) = c := by
      apply qf_pow_cancel (k := j)
      rw [Nat.mul_assoc, ← Nat.pow_add, show k - j + j = k by omega, hz]
    have hz3 : qf_Z y * 2 ^ 52 * 2 ^ (k - (j + 52)) = c := by
      rw [← hz2, Nat.mul_assoc, ← Nat.pow_add, show 52 + (k - (j + 52)) = k - j by omega]
    rw [z, z2, Nat.pow_zero, Nat.mul_one, hz3]
