/-! the class's scanner -/
def qt_i (c : Nat) : Int32 := if c = 256 then -1 else nI c
/-- the tape of the class -/
def tpX (b : Nat → Nat) (len : Nat) (I : qTI) : Prop := I 265 1 = nI len ∧ ∀ p, p < len → I 266 p = nI (b p)
theorem qt_le256 {b : Nat → Nat} {len : Nat} (hB : qt_B b len) (p : Nat) : b p ≤ 256 := by
  by_cases h : p < len
  · have := hB.2.1 p h; omega
  · rw [hB.2.2 p (by omega)]; exact Nat.le_refl _
theorem qt_i_eq {c k : Nat} (hc : c ≤ 256) (hk : k < 256) : qt_i c = nI k ↔ c = k := by
  unfold qt_i
  by_cases h : c = 256
  · rw [if_pos h]
    exact ⟨fun z => absurd z.symm (qi_nI_m1 (by omega)), fun z => by omega⟩
  · rw [if_neg h]
    exact qi_nI_inj' (by omega) (by omega)
theorem qt_i_lt {c k : Nat} (hc : c ≤ 256) (hk : k < 256) (h0 : 0 < k) : qt_i c < nI k ↔ (c = 256 ∨ c < k) := by
  unfold qt_i
  by_cases h : c = 256
  · rw [if_pos h, Int32.lt_iff_toInt_lt, nI_toInt (by omega), show (-1 : Int32).toInt = -1 from rfl]
    omega
  · rw [if_neg h, qi_lt (by omega) (by omega)]
    omega
theorem qt_lt_i {c k : Nat} (hc : c ≤ 256) (hk : k < 256) : nI k < qt_i c ↔ (c ≠ 256 ∧ k < c) := by
  unfold qt_i
  by_cases h : c = 256
  · rw [if_pos h, Int32.lt_iff_toInt_lt, nI_toInt (by omega), show (-1 : Int32).toInt = -1 from rfl]
    omega
  · rw [if_neg h, qi_lt (by omega) (by omega)]
    omega
theorem qt_fi_iff {c : Nat} : qt_fi c = true ↔ 48 ≤ c ∧ c ≤ 57 := by
  unfold qt_fi
  rw [Bool.and_eq_true_iff, Nat.ble_eq, Nat.ble_eq]
theorem qt_le_iff {c : Nat} : qt_le c = true ↔ 97 ≤ c ∧ c ≤ 122 := by
  unfold qt_le
  rw [Bool.and_eq_true_iff, Nat.ble_eq, Nat.ble_eq]
theorem qt_bl_iff {c : Nat} : qt_bl c = true ↔ c = 32 ∨ c = 10 := by
  unfold qt_bl
  rw [Bool.or_eq_true_iff, qs_beq, qs_beq]
section
variable {w : qcW} {I : qTI} {L : qTL} {D : qTD} {R : qTR} {b : Nat → Nat} {len : Nat}
theorem tpX_co {I' : qTI} (h : tpX b len I) (h1 : I' 265 = I 265) (h2 : I' 266 = I 266) : tpX b len I' := by
  unfold tpX at h ⊢
  rw [h1, h2]
  exact h
theorem tpX_268 (h : tpX b len I) (k : Nat) (v : Int32) : tpX b len (qc_u I 268 k v) := tpX_co h (qc_u_off _ _ (by decide)) (qc_u_off _ _ (by decide))
theorem cx_at (hB : qt_B b len) (hT : tpX b len I) {p : Nat} (hp : p < 2 ^ 30) : fX10_at w I L D R (nI p) = some (qt_i (b p), I, L, D, R) := by
  have hl := hB.1
  unfold fX10_at
  rw [if_neg (fun z => by have := Int32.lt_iff_toInt_lt.mp z; rw [nI_toInt (by omega)] at this; have : (0 : Int32).toInt = 0 := rfl; omega), hT.1]
  by_cases h : len ≤ p
  · rw [if_pos ((qi_le (by omega) (by omega)).mpr h), hB.2.2 p h]
    rfl
  · rw [if_neg (fun z => h ((qi_le (by omega) (by omega)).mp z)), qi_inbN (by omega) (by decide), qc_gdt, nI_clamp (by omega), hT.2 p (by omega)]
    have := hB.2.1 p (by omega)
    unfold qt_i
    rw [if_neg (by omega)]
theorem cx_bl {c : Nat} (hc : c ≤ 256) : fX9_isBlank w I L D R (qt_i c) = some (qt_bl c, I, L, D, R) := by
  unfold fX9_isBlank
  have e1 : qt_i c = 32 ↔ c = 32 := qt_i_eq (k := 32) hc (by decide)
  have e2 : qt_i c = 10 ↔ c = 10 := qt_i_eq (k := 10) hc (by decide)
  by_cases h1 : c = 32
  · rw [if_pos (e1.mpr h1), qt_bl_iff.mpr (Or.inl h1)]
  · rw [if_neg (fun z => h1 (e1.mp z))]
    by_cases h2 : c = 10
    · rw [if_pos (e2.mpr h2), qt_bl_iff.mpr (Or.inr h2)]
    · rw [if_neg (fun z => h2 (e2.mp z)), show qt_bl c = false from Bool.eq_false_iff.mpr (fun z => by have := qt_bl_iff.mp z; omega)]
theorem cx_fi {c : Nat} (hc : c ≤ 256) : fX9_isFigure w I L D R (qt_i c) = some (qt_fi c, I, L, D, R) := by
  unfold fX9_isFigure
  have e1 : qt_i c < 48 ↔ (c = 256 ∨ c < 48) := qt_i_lt (k := 48) hc (by decide) (by decide)
  have e2 : 57 < qt_i c ↔ (c ≠ 256 ∧ 57 < c) := qt_lt_i (k := 57) hc (by decide)
  by_cases h1 : c = 256 ∨ c < 48
  · rw [if_pos (e1.mpr h1), show qt_fi c = false from Bool.eq_false_iff.mpr (fun z => by have := qt_fi_iff.mp z; omega)]
  · rw [if_neg (fun z => h1 (e1.mp z))]
    by_cases h2 : c ≠ 256 ∧ 57 < c
    · rw [if_pos (e2.mpr h2), show qt_fi c = false from Bool.eq_false_iff.mpr (fun z => by have := qt_fi_iff.mp z; omega)]
    · rw [if_neg (fun z => h2 (e2.mp z)), qt_fi_iff.mpr (by omega)]
theorem cx_le {c : Nat} (hc : c ≤ 256) : fX9_isLetter w I L D R (qt_i c) = some (qt_le c, I, L, D, R) := by
  unfold fX9_isLetter
  have e1 : qt_i c < 97 ↔ (c = 256 ∨ c < 97) := qt_i_lt (k := 97) hc (by decide) (by decide)
  have e2 : 122 < qt_i c ↔ (c ≠ 256 ∧ 122 < c) := qt_lt_i (k := 122) hc (by decide)
  by_cases h1 : c = 256 ∨ c < 97
  · rw [if_pos (e1.mpr h1), show qt_le c = false from Bool.eq_false_iff.mpr (fun z => by have := qt_le_iff.mp z; omega)]
  · rw [if_neg (fun z => h1 (e1.mp z))]
    by_cases h2 : c ≠ 256 ∧ 122 < c
    · rw [if_pos (e2.mpr h2), show qt_le c = false from Bool.eq_false_iff.mpr (fun z => by have := qt_le_iff.mp z; omega)]
    · rw [if_neg (fun z => h2 (e2.mp z)), qt_le_iff.mpr (by omega)]
/-- blanks -/
theorem cx_skip (hB : qt_B b len) : ∀ (m N p i : Nat) (I : qTI), tpX b len I → I 268 3 = nI p → p + m ≤ 400 → i + m ≤ 400 → m < N → (∀ j, j < m → qt_bl (b (p + j)) = true) → qt_bl (b (p + m)) = false → fX9_take_l10 w N (I, L, D, R, nI i) = fX9_take_b50 w (qc_u I 268 3 (nI (p + m))) L D R
  | 0, N + 1, p, i, I, hT, h3, h1, h2, _, _, hb => by
    rw [fX9_take_l10_s]
    unfold fX9_take_b10
    rw [Nat.add_zero, qx_self h3]
    by_cases hi : (400 : Int32) ≤ nI i
    · rw [if_pos hi]
    · rw [if_neg hi, h3, cx_at hB hT (by omega), qc_bds, cx_bl (qt_le256 hB p), qc_bds]
      rw [Nat.add_zero] at hb
      rw [hb, if_neg (by decide)]
  | m + 1, N + 1, p, i, I, hT, h3, h1, h2, hN, hall, hb => by
    rw [fX9_take_l10_s]
    unfold fX9_take_b10
    have hi : ¬ (400 : Int32) ≤ nI i := fun z => by have := (qi_le (a := 400) (by decide) (by omega)).mp z; omega
    have h0 := hall 0 (by omega)
    rw [Nat.add_zero] at h0
    rw [if_neg hi, h3, cx_at hB hT (by omega), qc_bds, cx_bl (qt_le256 hB p), qc_bds, h0, if_pos rfl, h3, qi_s1, qi_s1, cx_skip hB m N (p + 1) (i + 1) _ (tpX_268 hT 3 _) (qc_u_at _ _ _ _) (by omega) (by omega) (by omega) (fun j hj => by have := hall (j + 1) (by omega); rw [show p + 1 + j = p + (j + 1) by omega]; exact this) (by rw [show p + 1 + m = p + (m + 1) by omega]; exact hb), qc_uu, show p + 1 + m = p + (m + 1) by omega]
end
