/-! doubles by their keys: what comparisons say -/
abbrev qk (x : UInt64) : Int := FP.Core.dkey x
theorem qk_cmp {x y : UInt64} (hx : qf_N x) (hy : qf_N y) : FP.dcmp x y = some (compare (qk x) (qk y)) := FP.Core.dcmp_key hx hy
theorem qk_v {x y : UInt64} (hx : qf_N x) (hy : qf_N y) (b : CmpOp) : Op.cmpValue (FP.dcmp x y) b = if qk x < qk y then -1 else if qk x = qk y then 0 else 1 := by
  rw [qk_cmp hx hy, FP.Core.compare_ite]
  by_cases h : qk x < qk y
  · rw [if_pos h, if_pos h]
    rfl
  · by_cases h2 : qk x = qk y
    · rw [if_neg h, if_neg h, if_pos h2, if_pos h2]
      rfl
    · rw [if_neg h, if_neg h, if_neg h2, if_neg h2]
      rfl
section
variable {x y : UInt64} {b : CmpOp}
theorem qk_lt (hx : qf_N x) (hy : qf_N y) : Op.cmpValue (FP.dcmp x y) b < 0 ↔ qk x < qk y := by
  rw [qk_v hx hy]
  split
  · exact ⟨fun _ => by assumption, fun _ => by decide⟩
  · split
    · exact ⟨fun h => absurd h (by decide), fun h => by omega⟩
    · exact ⟨fun h => absurd h (by decide), fun h => by omega⟩
theorem qk_le (hx : qf_N x) (hy : qf_N y) : Op.cmpValue (FP.dcmp x y) b ≤ 0 ↔ qk x ≤ qk y := by
  rw [qk_v hx hy]
  split
  · exact ⟨fun _ => by omega, fun _ => by decide⟩
  · split
    · exact ⟨fun h => by omega, fun h => by decide⟩
    · exact ⟨fun h => absurd h (by decide), fun h => by omega⟩
theorem qk_gt (hx : qf_N x) (hy : qf_N y) : 0 < Op.cmpValue (FP.dcmp x y) b ↔ qk y < qk x := by
  rw [qk_v hx hy]
  split
  · exact ⟨fun h => absurd h (by decide), fun h => by omega⟩
  · split
    · exact ⟨fun h => absurd h (by decide), fun h => by omega⟩
    · exact ⟨fun h => by omega, fun h => by decide⟩
theorem qk_ge (hx : qf_N x) (hy : qf_N y) : 0 ≤ Op.cmpValue (FP.dcmp x y) b ↔ qk y ≤ qk x := by
  rw [qk_v hx hy]
  split
  · exact ⟨fun h => absurd h (by decide), fun h => by omega⟩
  · split
    · exact ⟨fun h => by omega, fun h => by decide⟩
    · exact ⟨fun h => by omega, fun h => by decide⟩
theorem qk_eq (hx : qf_N x) (hy : qf_N y) : Op.cmpValue (FP.dcmp x y) b = 0 ↔ qk x = qk y := by
  rw [qk_v hx hy]
  split
  · exact ⟨fun h => absurd h (by decide), fun h => by omega⟩
  · split
    · exact ⟨fun h => by omega, fun h => by rfl⟩
    · exact ⟨fun h => absurd h (by decide), fun h => by omega⟩
end
def qf_INF : Nat := 9218868437227405312
theorem qf_N_iff (x : UInt64) : qf_N x ↔ x.toNat % 2 ^ 63 ≤ 9218868437227405312 := FP.Core.ne_nan x
theorem qf_F_iff (x : UInt64) : qf_F x ↔ x.toNat % 2 ^ 63 < 9218868437227405312 := FP.Core.fin_bits x
theorem qk_S (x : UInt64) : qk x = if 2 ^ 63 ≤ x.toNat then ((2 ^ 63 : Nat) : Int) - (x.toNat : Int) else (x.toNat : Int) := rfl
theorem qf_N0 : qf_N 0 := by rw [qf_N_iff]; decide
theorem qk_0 : qk 0 = 0 := by decide +kernel
theorem qf_ofn {n : Nat} (h : n < 2 ^ 64) : (UInt64.ofNat n).toNat = n := UInt64.toNat_ofNat_of_lt' h
/-- minus a double: its first bit turned -/
theorem qf_neg {x : UInt64} (h : qf_N x) : (FP.dneg x).toNat = if 2 ^ 63 ≤ x.toNat then x.toNat - 2 ^ 63 else x.toNat + 2 ^ 63 := by
  have hx := x.toNat_lt
  have key : ∀ y : UInt64, (x.toNat = y.toNat + 2 ^ 63 ∨ y.toNat = x.toNat + 2 ^ 63) → FP.dneg x = y := by
    intro y hy
    have h1 : FP.Core.val64 y = FP.Core.negate (FP.Core.val64 x) := FP.Core.val64_neg_bits hy
    have h2 : FP.Core.val64 (FP.dneg x) = FP.Core.negate (FP.Core.val64 x) := FP.val64_dneg x
    exact qf_val (by unfold qf_N; rw [h1]; exact FP.Core.negate_ne_nan h) (h2.trans h1.symm)
  split
  · rw [key (UInt64.ofNat (x.toNat - 2 ^ 63)) (Or.inl (by rw [qf_ofn (by omega)]; omega)), qf_ofn (by omega)]
  · rw [key (UInt64.ofNat (x.toNat + 2 ^ 63)) (Or.inr (by rw [qf_ofn (by omega)])), qf_ofn (by omega)]
theorem qf_neg_N {x : UInt64} (h : qf_N x) : qf_N (FP.dneg x) := by
  have h1 := qf_neg h
  rw [qf_N_iff] at h ⊢
  rw [h1]
  split <;> omega
theorem qk_neg {x : UInt64} (h : qf_N x) : qk (FP.dneg x) = -qk x := by
  have hx := x.toNat_lt
  rw [qk_S, qk_S, qf_neg h]
  split <;> split <;> omega
theorem qf_neg_neg {x : UInt64} (h : qf_N x) : FP.dneg (FP.dneg x) = x := by
  have hx := x.toNat_lt
  apply UInt64.toNat_inj.mp
  rw [qf_neg (qf_neg_N h), qf_neg h]
  split <;> split <;> omega
/-- which have a minus, which are endless -/
def qf_M (x : UInt64) : Bool := decide (2 ^ 63 ≤ x.toNat)
def qf_E (x : UInt64) : Bool := decide (x.toNat % 2 ^ 63 = 9218868437227405312)
theorem qf_M_neg {x : UInt64} (h : qf_N x) : qf_M (FP.dneg x) = !qf_M x := by
  have hx := x.toNat_lt
  unfold qf_M
  rw [qf_neg h]
  by_cases q : 2 ^ 63 ≤ x.toNat
  · rw [if_pos q, decide_eq_true q, decide_eq_false (by omega)]
    rfl
  · rw [if_neg q, decide_eq_false q, decide_eq_true (by omega)]
    rfl
theorem qf_E_neg {x : UInt64} (h : qf_N x) : qf_E (FP.dneg x) = qf_E x := by
  have hx := x.toNat_lt
  unfold qf_E
  rw [qf_neg h]
  congr 1
  apply propext
  split <;> omega
section
variable {w : qcW} {I : qTI} {L : qTL} {D : qTD} {R : qTR} {x y : UInt64}
theorem qf_z0 (h : qk x = 0) : x = 0 ∨ x = 9223372036854775808 := by
  have hx := x.toNat_lt
  rw [qk_S] at h
  split at h
  · exact Or.inr (UInt64.toNat_inj.mp (by show x.toNat = 9223372036854775808; omega))
  · exact Or.inl (UInt64.toNat_inj.mp (by show x.toNat = 0; omega))
theorem qf_mn (b : CmpOp) (c : CmpOp) (h : qk x = 0) : (0 ≤ Op.cmpValue (FP.dcmp (FP.ddiv 4607182418800017408 x) 0) c) ↔ qf_M x = false := by
  rcases qf_z0 h with rfl | rfl
  · exact ⟨fun _ => by decide, fun _ => by cases c <;> decide +kernel⟩
  · exact ⟨fun h => absurd h (by cases c <;> decide +kernel), fun h => absurd h (by decide)⟩
theorem qf_mN (h : qk x = 0) : qc_n64 (FP.ddiv 4607182418800017408 x) = true := by
  rcases qf_z0 h with rfl | rfl <;> decide +kernel
theorem qf_M_lt (h : qk x < 0) : qf_M x = true := by
  rw [qk_S] at h
  unfold qf_M
  split at h
  · exact decide_eq_true (by assumption)
  · omega
theorem qf_M_gt (h : 0 < qk x) : qf_M x = false := by
  have hx := x.toNat_lt
  rw [qk_S] at h
  unfold qf_M
  split at h
  · omega
  · exact decide_eq_false (by assumption)
theorem fx_isMinus (h : qf_N x) : fX8_isMinus w I L D R x = some (qf_M x, I, L, D, R) := by
  unfold fX8_isMinus
  simp only [qk_lt h qf_N0, qk_eq h qf_N0, qk_0]
  by_cases h1 : qk x < 0
  · rw [if_pos h1, qf_M_lt h1]
  · rw [if_neg h1]
    by_cases h2 : qk x = 0
    · rw [if_pos h2, qf_mN h2]
      show (if 0 ≤ Op.cmpValue (FP.dcmp (FP.ddiv 4607182418800017408 x) 0) .g then _ else _) = _
      by_cases h3 : qf_M x = false
      · rw [if_pos ((qf_mn .g .g h2).mpr h3), h3]
      · rw [if_neg (fun q => h3 ((qf_mn .g .g h2).mp q))]
        cases h4 : qf_M x
        · exact absurd h4 h3
        · rfl
    · rw [if_neg h2, qf_M_gt (by omega)]
theorem qf_Nx {n : Nat} (h : n % 2 ^ 63 ≤ 9218868437227405312) (h2 : n < 2 ^ 64) : qf_N (UInt64.ofNat n) := by
  rw [qf_N_iff, qf_ofn h2]
  exact h
theorem qf_NX : qf_N 9218868437227405311 := by rw [qf_N_iff]; decide
theorem qf_NY : qf_N 18442240474082181119 := by rw [qf_N_iff]; decide
theorem qk_X : qk 9218868437227405311 = 9218868437227405311 := by decide +kernel
theorem qk_Y : qk 18442240474082181119 = -9218868437227405311 := by decide +kernel
theorem qf_E_iff (h : qf_N x) : qf_E x = true ↔ (9218868437227405311 < qk x ∨ qk x < -9218868437227405311) := by
  have hx := x.toNat_lt
  rw [qf_N_iff] at h
  unfold qf_E
  rw [decide_eq_true_eq, qk_S]
  split <;> omega
theorem fx_isEndless (h : qf_N x) : fX8_isEndless w I L D R x = some (qf_E x, I, L, D, R) := by
  unfold fX8_isEndless
  simp only [qk_gt h qf_NX, qk_ge h qf_NY, qk_X, qk_Y]
  have hE := qf_E_iff h
  by_cases h1 : 9218868437227405311 < qk x
  · rw [if_pos h1, hE.mpr (Or.inl h1)]
  · rw [if_neg h1]
    by_cases h2 : -9218868437227405311 ≤ qk x
    · rw [if_pos h2]
      cases h3 : qf_E x
      · rfl
      · rcases hE.mp h3 with h4 | h4 <;> omega
    · rw [if_neg h2, hE.mpr (Or.inr (by omega))]
theorem fx_magnitude (h : qf_N x) : fX8_magnitude w I L D R x = some (if qf_M x = true then FP.dneg x else x, I, L, D, R) := by
  unfold fX8_magnitude
  rw [fx_isMinus h]
  show (if qf_M x = true then _ else _) = _
  split <;> rfl
end
