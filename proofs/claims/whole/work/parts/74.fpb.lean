/-! scaled: by powers of two, step by step -/
def qf_tk : Nat → Nat → Nat
  | 0, _ => 0
  | t + 1, l => if 2 ^ t ≤ l then 2 ^ t + qf_tk t (l - 2 ^ t) else qf_tk t l
theorem qf_tk_eq : ∀ t l, qf_tk t l = min l (2 ^ t - 1)
  | 0, l => by simp [qf_tk]
  | t + 1, l => by
    rw [qf_tk, qf_tk_eq t, qf_tk_eq t, Nat.pow_succ]
    have := Nat.two_pow_pos t
    split <;> omega
theorem qi_div2 (a : Nat) (h : a < 2 ^ 31) : nI a / 2 = nI (a / 2) := by
  have e : (2 : Int32).toInt = 2 := rfl
  have h1 : (nI a).toInt = (a : Int) := nI_toInt h
  apply Int32.toInt_inj.mp
  rw [nI_toInt (by omega), Int32.toInt_div, h1, e]
  have : ((a : Int).tdiv 2) = ((a / 2 : Nat) : Int) := by
    rw [Int.tdiv_eq_ediv_of_nonneg (by omega)]; omega
  rw [this]
  exact Int.bmod_eq_of_le (by omega) (by omega)
theorem qi_sub {a b : Nat} (h : b ≤ a) : nI a - nI b = nI (a - b) := by
  have h1 : nI a = nI (a - b) + nI b := by rw [nI_add]; congr 1; omega
  rw [h1, Int32.add_sub_cancel]
section
variable {w : qcW} {I : qTI} {L : qTL} {D : qTD} {R : qTR} {x2 : Int32} {T : Nat} {Y : Nat → UInt64}
theorem qf_sc_in (hN : ∀ d, d ≤ T → qf_N (Y d)) (hop : ∀ d t, t ≤ 9 → d + 2 ^ t ≤ T → (if 0 ≤ x2 then FP.dmul (Y d) (qf_pw (2 ^ t)) else FP.ddiv (Y d) (qf_pw (2 ^ t))) = Y (d + 2 ^ t)) (k17 : qTI × qTL × qTD × qTR × Int32 × UInt64 × Int32 × Int32 → qcO UInt64) (x6 : Int32) :
    ∀ (t n d l : Nat), t ≤ 10 → t < n → d + qf_tk t l ≤ T → l < 2 ^ 31 → fX8_scaled_l28 w k17 n (I, L, D, R, x2, Y d, nI l, x6, nI (2 ^ t / 2)) = k17 (I, L, D, R, x2, Y (d + qf_tk t l), nI (l - qf_tk t l), x6 + 1) := by
  intro t
  induction t with
  | zero =>
    intro n d l _ hn hd hl
    obtain ⟨n, rfl⟩ : ∃ m, n = m + 1 := ⟨n - 1, by omega⟩
    show fX8_scaled_b28 w k17 (fX8_scaled_l28 w k17 n) I L D R x2 (Y d) (nI l) x6 (nI (2 ^ 0 / 2)) = _
    unfold fX8_scaled_b28
    rw [if_pos (by decide)]
    rfl
  | succ t ih =>
    intro n d l ht hn hd hl
    obtain ⟨n, rfl⟩ : ∃ m, n = m + 1 := ⟨n - 1, by omega⟩
    have e2 : 2 ^ (t + 1) / 2 = 2 ^ t := by rw [Nat.pow_succ]; omega
    have hp : 2 ^ t ≤ 512 := Nat.pow_le_pow_right (n := 2) (by decide) (show t ≤ 9 by omega)
    have hp0 := Nat.two_pow_pos t
    rw [e2]
    show fX8_scaled_b28 w k17 (fX8_scaled_l28 w k17 n) I L D R x2 (Y d) (nI l) x6 (nI (2 ^ t)) = _
    unfold fX8_scaled_b28
    rw [if_neg (fun q => by have := (qi_lt (b := 1) (by omega) (by decide)).mp q; omega)]
    rw [qf_tk] at hd ⊢
    by_cases hc : 2 ^ t ≤ l
    · rw [if_neg (fun q => by have := (qi_lt hl (by omega)).mp q; omega)]
      rw [if_pos hc] at hd ⊢
      have ho := hop d t (by omega) (by omega)
      have hx : ∀ z, z = Y (d + 2 ^ t) → (qc_gd (qc_n64 z) <| fX8_scaled_b62 w k17 (fX8_scaled_l28 w k17 n) I L D R x2 (nI l) x6 (nI (2 ^ t)) z) = k17 (I, L, D, R, x2, Y (d + (2 ^ t + qf_tk t (l - 2 ^ t))), nI (l - (2 ^ t + qf_tk t (l - 2 ^ t))), x6 + 1) := by
        intro z hz
        rw [hz, (qf_n64 _).mpr (hN _ (by omega))]
        show fX8_scaled_l28 w k17 n (I, L, D, R, x2, Y (d + 2 ^ t), nI l - nI (2 ^ t), x6, nI (2 ^ t) / 2) = _
        rw [qi_sub hc, qi_div2 _ (by omega), ih n (d + 2 ^ t) (l - 2 ^ t) (by omega) (by omega) (by omega) (by omega), Nat.add_assoc, Nat.sub_sub]
      by_cases h0 : 0 ≤ x2
      · rw [if_pos h0] at ho ⊢
        rw [qf_tw (by omega)]
        exact hx _ ho
      · rw [if_neg h0] at ho ⊢
        rw [qf_tw (by omega)]
        exact hx _ ho
    · rw [if_pos ((qi_lt hl (by omega)).mpr (by omega))]
      rw [if_neg hc] at hd ⊢
      show fX8_scaled_l28 w k17 n (I, L, D, R, x2, Y d, nI l, x6, nI (2 ^ t) / 2) = _
      rw [qi_div2 _ (by omega)]
      exact ih n d l (by omega) (by omega) hd hl
theorem qf_sc_two (hN : ∀ d, d ≤ T → qf_N (Y d)) (hop : ∀ d t, t ≤ 9 → d + 2 ^ t ≤ T → (if 0 ≤ x2 then FP.dmul (Y d) (qf_pw (2 ^ t)) else FP.ddiv (Y d) (qf_pw (2 ^ t))) = Y (d + 2 ^ t)) (hT : T ≤ 2046) (m : Nat) :
    fX8_scaled_l17 w (m + 3) (I, L, D, R, x2, Y 0, nI T, 0) = some (Y T, I, L, D, R) := by
  have t1 : qf_tk 10 T = min T 1023 := qf_tk_eq 10 T
  have t2 : qf_tk 10 (T - min T 1023) = T - min T 1023 := by rw [qf_tk_eq 10]; omega
  have hF2 : 10 < qcF := by unfold qcF; omega
  rw [fX8_scaled_l17_s]
  unfold fX8_scaled_b17
  rw [if_neg (by decide)]
  have h1 := qf_sc_in (w := w) (I := I) (L := L) (D := D) (R := R) hN hop (fX8_scaled_l17 w (m + 2)) 0 10 qcF 0 T (by omega) hF2 (by rw [t1]; omega) (by omega)
  rw [Nat.zero_add, t1] at h1
  rw [show nI (2 ^ 10 / 2) = 512 by decide, show (0 : Int32) + 1 = 1 by decide] at h1
  rw [h1, fX8_scaled_l17_s]
  unfold fX8_scaled_b17
  rw [if_neg (by decide)]
  have h2 := qf_sc_in (w := w) (I := I) (L := L) (D := D) (R := R) hN hop (fX8_scaled_l17 w (m + 1)) 1 10 qcF (min T 1023) (T - min T 1023) (by omega) hF2 (by rw [t2]; omega) (by omega)
  rw [t2, show min T 1023 + (T - min T 1023) = T by omega] at h2
  rw [show nI (2 ^ 10 / 2) = 512 by decide, show (1 : Int32) + 1 = 2 by decide] at h2
  rw [h2, fX8_scaled_l17_s]
  unfold fX8_scaled_b17
  rw [if_pos (by decide)]
theorem qf_F3 : qcF = (qcF - 3) + 3 := by unfold qcF; omega
theorem qf_sc_all (hN : ∀ d, d ≤ T → qf_N (Y d)) (hop : ∀ d t, t ≤ 9 → d + 2 ^ t ≤ T → (if 0 ≤ x2 then FP.dmul (Y d) (qf_pw (2 ^ t)) else FP.ddiv (Y d) (qf_pw (2 ^ t))) = Y (d + 2 ^ t)) (hT : T ≤ 2046) :
    fX8_scaled_b12 w I L D R x2 (Y 0) (nI T) = some (Y T, I, L, D, R) := by
  have h := qf_sc_two (w := w) (I := I) (L := L) (D := D) (R := R) hN hop hT (qcF - 3)
  rw [← qf_F3] at h
  exact h
end
section
variable {w : qcW} {I : qTI} {L : qTL} {D : qTD} {R : qTR} {T : Nat} {Y : Nat → UInt64}
theorem qf_scUp (hT : T ≤ 2046) (hY : ∀ d, d ≤ T → qf_F (Y d) ∧ qf_S (Y d) = qf_S (Y 0) ∧ qf_Z (Y d) = qf_Z (Y 0) * 2 ^ d) : fX8_scaled w I L D R (Y 0) (nI T) = some (Y T, I, L, D, R) := by
  have h0 : 0 ≤ nI T := (qi_le (a := 0) (by decide) (by omega)).mpr (Nat.zero_le _)
  unfold fX8_scaled
  rw [if_pos h0]
  refine qf_sc_all (fun d hd => (hY d hd).1.N) (fun d t ht hd => ?_) hT
  rw [if_pos h0]
  have hp : 2 ^ t ≤ 512 := Nat.pow_le_pow_right (n := 2) (by decide) ht
  have hp0 := Nat.two_pow_pos t
  obtain ⟨a1, a2, a3⟩ := hY d (by omega)
  obtain ⟨b1, b2, b3⟩ := hY (d + 2 ^ t) hd
  exact qf_mul a1 (qf_pw_2 (by omega)) b1 (by rw [a2, b2]) (by rw [a3, b3, Nat.mul_assoc, ← Nat.pow_add])
theorem qf_scDn (hT : T ≤ 2046) (h1 : 1 ≤ T) (hY : ∀ d, d ≤ T → qf_F (Y d) ∧ qf_S (Y d) = qf_S (Y 0) ∧ qf_Z (Y d) * 2 ^ d = qf_Z (Y 0)) : fX8_scaled w I L D R (Y 0) (-nI T) = some (Y T, I, L, D, R) := by
  have h0 : ¬ 0 ≤ -nI T := by
    intro q
    rw [Int32.le_iff_toInt_le, Int32.toInt_neg, nI_toInt (by omega)] at q
    have e : (-(T : Int)).bmod (2 ^ 32) = -(T : Int) := Int.bmod_eq_of_le (by omega) (by omega)
    rw [e] at q
    have e0 : (0 : Int32).toInt = 0 := rfl
    omega
  unfold fX8_scaled
  rw [if_neg h0, Int32.neg_neg]
  refine qf_sc_all (fun d hd => (hY d hd).1.N) (fun d t ht hd => ?_) hT
  rw [if_neg h0]
  have hp : 2 ^ t ≤ 512 := Nat.pow_le_pow_right (n := 2) (by decide) ht
  have hp0 := Nat.two_pow_pos t
  obtain ⟨a1, a2, a3⟩ := hY d (by omega)
  obtain ⟨b1, b2, b3⟩ := hY (d + 2 ^ t) hd
  refine qf_div a1 (qf_pw_2 (by omega)) b1 (by rw [a2, b2]) ?_
  apply qf_pow_cancel (k := d)
  rw [a3, ← b3, Nat.mul_assoc, ← Nat.pow_add, Nat.add_comm]
end
