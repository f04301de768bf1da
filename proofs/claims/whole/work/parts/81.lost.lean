/-! what both do with doubles: sign, end, lesser, greater, what is lost -/
def qf_z (x : UInt64) : Bool := decide (qk x = 0)
def qf_lost (op : Int32) (x y : UInt64) : Bool :=
  if op = 1 then qf_E x && (qf_E y && (qf_M x != qf_M y)) else if op = 2 then qf_E x && (qf_E y && (qf_M x == qf_M y)) else if op = 3 then (qf_z x && qf_E y) || (qf_E x && qf_z y) else if op = 4 then (qf_E x && qf_E y) || (qf_z x && qf_z y) else qf_E x || qf_z y
def qf_less (x y : UInt64) : UInt64 := if qk x < qk y then x else if qk y < qk x then y else if qf_M x = true then x else y
def qf_more (x y : UInt64) : UInt64 := if qk y < qk x then x else if qk x < qk y then y else if qf_M x = true then y else x
section
variable {w : qcW} {I : qTI} {L : qTL} {D : qTD} {R : qTR} {x y : UInt64}
theorem fm_isMinus (h : qf_N x) : fX12_isMinus w I L D R x = some (qf_M x, I, L, D, R) := fx_isMinus (w := w) h
theorem fm_isEndless (h : qf_N x) : fX12_isEndless w I L D R x = some (qf_E x, I, L, D, R) := fx_isEndless (w := w) h
theorem fm_without (h : qf_N x) : fX12_without w I L D R x = some (if qf_M x = true then FP.dneg x else x, I, L, D, R) := fx_magnitude (w := w) h
theorem fx_lesser (hx : qf_N x) (hy : qf_N y) : fX8_lesser w I L D R x y = some (qf_less x y, I, L, D, R) := by
  unfold fX8_lesser qf_less
  simp only [qk_eq hx hy, qk_ge hx hy]
  rcases Int.lt_trichotomy (qk x) (qk y) with h | h | h
  · rw [if_neg (by omega), if_neg (by omega), if_pos h]
  · rw [if_pos h, if_neg (by omega), if_neg (by omega), fx_isMinus hx]
    show (if qf_M x = true then _ else _) = _
    split <;> rfl
  · rw [if_neg (by omega), if_pos (by omega), if_neg (by omega), if_pos h]
theorem fx_greater (hx : qf_N x) (hy : qf_N y) : fX8_greater w I L D R x y = some (qf_more x y, I, L, D, R) := by
  unfold fX8_greater qf_more
  simp only [qk_eq hx hy, qk_le hx hy]
  rcases Int.lt_trichotomy (qk x) (qk y) with h | h | h
  · rw [if_neg (by omega), if_pos (by omega), if_neg (by omega), if_pos h]
  · rw [if_pos h, if_neg (by omega), if_neg (by omega), fx_isMinus hx]
    show (if qf_M x = true then _ else _) = _
    split <;> rfl
  · rw [if_neg (by omega), if_neg (by omega), if_pos h]
theorem fm_lesser (hx : qf_N x) (hy : qf_N y) : fX12_lesser w I L D R x y = some (qf_less x y, I, L, D, R) := by
  unfold fX12_lesser qf_less
  simp only [qk_ge hy hx, qk_ge hx hy]
  rcases Int.lt_trichotomy (qk x) (qk y) with h | h | h
  · rw [if_neg (by omega), if_pos h]
  · rw [if_pos (by omega), if_pos (by omega), if_neg (by omega), if_neg (by omega), fm_isMinus hx]
    show (if qf_M x = true then _ else _) = _
    split <;> rfl
  · rw [if_pos (by omega), if_neg (by omega), if_neg (by omega), if_pos h]
theorem fm_greater (hx : qf_N x) (hy : qf_N y) : fX12_greater w I L D R x y = some (qf_more x y, I, L, D, R) := by
  unfold fX12_greater qf_more
  simp only [qk_le hy hx, qk_le hx hy]
  rcases Int.lt_trichotomy (qk x) (qk y) with h | h | h
  · rw [if_pos (by omega), if_neg (by omega), if_neg (by omega), if_pos h]
  · rw [if_pos (by omega), if_pos (by omega), if_neg (by omega), if_neg (by omega), fm_isMinus hx]
    show (if qf_M x = true then _ else _) = _
    split <;> rfl
  · rw [if_neg (by omega), if_pos h]
theorem qf_less_N (hx : qf_N x) (hy : qf_N y) : qf_N (qf_less x y) := by
  unfold qf_less
  repeat' split
  all_goals assumption
theorem qf_more_N (hx : qf_N x) (hy : qf_N y) : qf_N (qf_more x y) := by
  unfold qf_more
  repeat' split
  all_goals assumption
theorem qf_E_key (hx : qf_N x) (hE : qf_E x = true) : qk x = if qf_M x = true then -9218868437227405312 else 9218868437227405312 := by
  have h1 := x.toNat_lt
  unfold qf_E at hE
  have h2 := of_decide_eq_true hE
  rw [qk_S]
  unfold qf_M
  by_cases q : 2 ^ 63 ≤ x.toNat
  · rw [if_pos q, decide_eq_true q, if_pos rfl]
    omega
  · rw [if_neg q, decide_eq_false q, if_neg (by decide)]
    omega
theorem qf_key_E (hy : qf_N y) (h : qk y = 9218868437227405312 ∨ qk y = -9218868437227405312) : qf_E y = true := by
  rw [qf_E_iff hy]
  omega
theorem qf_eqneg (hx : qf_N x) (hy : qf_N y) (hE : qf_E x = true) : (qk y = -qk x) ↔ (qf_E y && (qf_M x != qf_M y)) = true := by
  have h1 := qf_E_key hx hE
  constructor
  · intro h
    have hE2 : qf_E y = true := qf_key_E hy (by rw [h, h1]; split <;> omega)
    have h2 := qf_E_key hy hE2
    rw [hE2, Bool.true_and]
    rw [h1, h2] at h
    cases a : qf_M x <;> cases b : qf_M y <;> rw [a, b] at h <;> simp_all
  · intro h
    rw [Bool.and_eq_true] at h
    have h2 := qf_E_key hy h.1
    have h3 := h.2
    rw [h1, h2]
    cases a : qf_M x <;> cases b : qf_M y <;> rw [a, b] at h3 <;> simp_all
theorem qf_eqpos (hx : qf_N x) (hy : qf_N y) (hE : qf_E x = true) : (qk y = qk x) ↔ (qf_E y && (qf_M x == qf_M y)) = true := by
  have h1 := qf_E_key hx hE
  constructor
  · intro h
    have hE2 : qf_E y = true := qf_key_E hy (by rw [h, h1]; split <;> omega)
    have h2 := qf_E_key hy hE2
    rw [hE2, Bool.true_and]
    rw [h1, h2] at h
    cases a : qf_M x <;> cases b : qf_M y <;> rw [a, b] at h <;> simp_all
  · intro h
    rw [Bool.and_eq_true] at h
    have h2 := qf_E_key hy h.1
    have h3 := h.2
    rw [h1, h2]
    cases a : qf_M x <;> cases b : qf_M y <;> rw [a, b] at h3 <;> simp_all
theorem qf_ifb {α : Type} (b : Bool) {c : Prop} [Decidable c] (h : c ↔ b = true) (f : Bool → α) : (if c then f true else f false) = f b := by
  by_cases hc : c
  · rw [if_pos hc, h.mp hc]
  · rw [if_neg hc]
    cases b
    · rfl
    · exact absurd (h.mpr rfl) hc
theorem qf_z_iff : qk x = 0 ↔ qf_z x = true := by unfold qf_z; rw [decide_eq_true_eq]
theorem fx_isLost (op : Int32) (hx : qf_N x) (hy : qf_N y) : fX8_isLost w I L D R op x y = some (qf_lost op x y, I, L, D, R) := by
  unfold fX8_isLost qf_lost fX8_isLost_b84 fX8_isLost_b115
  simp only [qk_eq hy (qf_neg_N hx), qk_eq hy hx, qk_eq hy qf_N0, qk_eq hx qf_N0, qk_0, qk_neg hx, fx_isEndless hx, fx_isEndless hy]
  by_cases h1 : op = 1
  · rw [if_pos h1, if_pos h1]
    show (if qf_E x = true then _ else _) = _
    cases e : qf_E x
    · rfl
    · simp only [if_true]
      exact qf_ifb _ (qf_eqneg hx hy e) (fun b => some (b, I, L, D, R))
  · rw [if_neg h1, if_neg h1]
    by_cases h2 : op = 2
    · rw [if_pos h2, if_pos h2]
      show (if qf_E x = true then _ else _) = _
      cases e : qf_E x
      · rfl
      · simp only [if_true]
        exact qf_ifb _ (qf_eqpos hx hy e) (fun b => some (b, I, L, D, R))
    · rw [if_neg h2, if_neg h2]
      simp only [qf_z_iff, qc_bd]
      by_cases h3 : op = 3
      · rw [if_pos h3, if_pos h3]
        cases qf_E x <;> cases qf_E y <;> cases qf_z x <;> cases qf_z y <;> rfl
      · rw [if_neg h3, if_neg h3]
        by_cases h4 : op = 4
        · rw [if_pos h4, if_pos h4]
          cases qf_E x <;> cases qf_E y <;> cases qf_z x <;> cases qf_z y <;> rfl
        · rw [if_neg h4, if_neg h4]
          cases qf_E x <;> cases qf_E y <;> cases qf_z x <;> cases qf_z y <;> rfl
theorem fm_isNone (op : Int32) (hx : qf_N x) (hy : qf_N y) : fX12_isNone w I L D R op x y = some (qf_lost op x y, I, L, D, R) := by
  unfold fX12_isNone fX12_isNone_b18 fX12_isNone_b19 fX12_isNone_b109 qf_lost
  simp only [qk_eq hy qf_N0, qk_eq hx qf_N0, qk_0, fm_isEndless hx, fm_isEndless hy, fm_isMinus hx, fm_isMinus hy, qf_z_iff, qc_bd]
  by_cases h1 : op = 1
  · simp only [if_pos h1]
    cases qf_E x <;> cases qf_E y <;> cases qf_M x <;> cases qf_M y <;> rfl
  · simp only [if_neg h1]
    by_cases h2 : op = 2
    · simp only [if_pos h2]
      cases qf_E x <;> cases qf_E y <;> cases qf_M x <;> cases qf_M y <;> rfl
    · simp only [if_neg h2]
      by_cases h3 : op = 3
      · simp only [if_pos h3]
        cases qf_E x <;> cases qf_E y <;> cases qf_z x <;> cases qf_z y <;> rfl
      · simp only [if_neg h3]
        by_cases h4 : op = 4
        · simp only [if_pos h4]
          cases qf_E x <;> cases qf_E y <;> cases qf_z x <;> cases qf_z y <;> rfl
        · simp only [if_neg h4]
          cases qf_E x <;> cases qf_E y <;> cases qf_z x <;> cases qf_z y <;> rfl
end
