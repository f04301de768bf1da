/-! the nearest whole number, and the floor -/
def qf_rn (z : Nat) : Nat := FP.Core.nearest z (2 ^ 1074)
theorem qf_B : qf_p2 4841369599423283200 52 := by
  show qf_p2 (qf_pw 52) 52
  exact qf_pw_2 (by decide)
theorem qf_BF : qf_F 4841369599423283200 := ⟨_, _, _, qf_B⟩
theorem qf_BS : qf_S 4841369599423283200 = false := qf_pw_S (k := 52) (by decide)
theorem qf_BZ : qf_Z 4841369599423283200 = 2 ^ 52 * 2 ^ 1074 := by
  have h := qf_pw_Z (k := 52) (by decide)
  rw [Nat.pow_add] at h
  exact h
theorem qf_rn_scale {c d k : Nat} (hd : 0 < d) : FP.Core.nearest (c * 2 ^ k) (d * 2 ^ k) = FP.Core.nearest c d := by
  have hk := Nat.two_pow_pos k
  unfold FP.Core.nearest
  rw [Nat.mul_mod_mul_right, Nat.mul_div_mul_right _ _ hk]
  have e1 : (2 * (c % d * 2 ^ k) < d * 2 ^ k) ↔ 2 * (c % d) < d := by
    rw [← Nat.mul_assoc]
    exact Nat.mul_lt_mul_right hk
  have e2 : (d * 2 ^ k < 2 * (c % d * 2 ^ k)) ↔ d < 2 * (c % d) := by
    rw [← Nat.mul_assoc]
    exact Nat.mul_lt_mul_right hk
  simp only [e1, e2]
theorem qf_rn_add {c d n : Nat} (hd : 0 < d) (hn : n % 2 = 0) : FP.Core.nearest (c + n * d) d = n + FP.Core.nearest c d := by
  unfold FP.Core.nearest
  rw [Nat.add_mul_mod_self_right, Nat.add_mul_div_right _ _ hd]
  split
  · omega
  · split
    · omega
    · omega
theorem qf_rn_le {z : Nat} (h : z < 2 ^ 52 * 2 ^ 1074) : qf_rn z ≤ 2 ^ 52 := by
  have h1 : z / 2 ^ 1074 < 2 ^ 52 := Nat.div_lt_of_lt_mul (by rw [Nat.mul_comm]; exact h)
  unfold qf_rn FP.Core.nearest
  split
  · omega
  · split <;> omega
theorem qf_big {s : UInt64} (hs : qf_F s) (h0 : qf_S s = false) (hlt : qf_Z s < 2 ^ 52 * 2 ^ 1074) : qf_F (FP.dadd s 4841369599423283200) ∧ qf_S (FP.dadd s 4841369599423283200) = false ∧ qf_Z (FP.dadd s 4841369599423283200) = (2 ^ 52 + qf_rn (qf_Z s)) * 2 ^ 1074 := by
  have hrl := qf_rn_le hlt
  obtain ⟨c, k, hv, h1, h2, h3, hz⟩ := qf_fin hs
  rw [h0] at hv
  have hk : k < 1074 := by
    rcases h3 with h3 | h3
    · omega
    · rcases Nat.lt_or_ge k 1074 with h | h
      · exact h
      · exfalso
        have h5 : 2 ^ 52 * 2 ^ 1074 ≤ c * 2 ^ k := Nat.mul_le_mul h3 (Nat.pow_le_pow_right (by decide) h)
        rw [← hz] at h5
        exact Nat.not_le.mpr hlt h5
  have hc : c < 2 ^ 52 * 2 ^ (1074 - k) := by
    rw [hz, show 1074 = 1074 - k + k by omega, Nat.pow_add, ← Nat.mul_assoc] at hlt
    exact Nat.lt_of_mul_lt_mul_right hlt
  have hd0 := Nat.two_pow_pos (1074 - k)
  have hu : FP.Core.sumUnits false c ((k : Int) - 1074) false (2 ^ 52) (((52 : Nat) : Int) - 52) ((k : Int) - 1074) = ((c + 2 ^ 52 * 2 ^ (1074 - k) : Nat) : Int) := by
    unfold FP.Core.sumUnits FP.Core.inUnits
    rw [Int.sub_self, show (0 : Int).toNat = 0 from rfl, Nat.pow_zero, Nat.mul_one, qf_sgn0, qf_sgn0, show ((((52 : Nat) : Int) - 52) - ((k : Int) - 1074)).toNat = 1074 - k by omega]
    simp only [Bool.false_eq_true, if_false]
    omega
  have hA : c + 2 ^ 52 * 2 ^ (1074 - k) ≠ 0 := by
    have : 0 < 2 ^ 52 * 2 ^ (1074 - k) := Nat.mul_pos (by decide) hd0
    omega
  have hlog : (c + 2 ^ 52 * 2 ^ (1074 - k)).log2 = 52 + (1074 - k) := by
    have e : 2 ^ (52 + (1074 - k)) = 2 ^ 52 * 2 ^ (1074 - k) := Nat.pow_add _ _ _
    rw [Nat.log2_eq_iff hA, Nat.pow_succ, e]
    omega
  have hlead : FP.Core.leading (c + 2 ^ 52 * 2 ^ (1074 - k)) 1 = ((52 + (1074 - k) : Nat) : Int) := by
    unfold FP.Core.leading
    simp only
    rw [hlog, show Nat.log2 1 = 0 by decide]
    rw [show (((52 + (1074 - k) : Nat) : Int) - ((0 : Nat) : Int)) = ((52 + (1074 - k) : Nat) : Int) by omega]
    rw [if_pos]
    rw [show (((52 + (1074 - k) : Nat) : Int)).toNat = 52 + (1074 - k) by omega, show (-((52 + (1074 - k) : Nat) : Int)).toNat = 0 by omega, Nat.pow_zero, Nat.mul_one, Nat.one_mul, Nat.pow_add]
    omega
  have hq : FP.Core.quantum FP.Core.b64 (c + 2 ^ 52 * 2 ^ (1074 - k)) 1 ((k : Int) - 1074) = 0 := by
    unfold FP.Core.quantum
    rw [hlead, FP.Core.qmin_b64, show ((FP.Core.b64.p : Nat) : Int) = 53 from rfl]
    omega
  have hr : FP.Core.val64 (FP.dadd s 4841369599423283200) = FP.Core.settle FP.Core.b64 false (2 ^ 52 + qf_rn (qf_Z s)) 0 := by
    show FP.Core.val64 (FP.Core.dadd s 4841369599423283200) = _
    rw [FP.Core.val64_dadd, hv, qf_B]
    show FP.Core.roundRatio FP.Core.b64 (FP.Core.sumSign false false (FP.Core.sumUnits false c ((k : Int) - 1074) false (2 ^ 52) (((52 : Nat) : Int) - 52) (min ((k : Int) - 1074) (((52 : Nat) : Int) - 52)))) (FP.Core.sumUnits false c ((k : Int) - 1074) false (2 ^ 52) (((52 : Nat) : Int) - 52) (min ((k : Int) - 1074) (((52 : Nat) : Int) - 52))).natAbs 1 (min ((k : Int) - 1074) (((52 : Nat) : Int) - 52)) = _
    rw [show min ((k : Int) - 1074) (((52 : Nat) : Int) - 52) = (k : Int) - 1074 by omega, hu]
    rw [show FP.Core.sumSign false false ((c + 2 ^ 52 * 2 ^ (1074 - k) : Nat) : Int) = false from by
      unfold FP.Core.sumSign
      split
      · rfl
      · exact decide_eq_false (by omega)]
    rw [Int.natAbs_natCast]
    unfold FP.Core.roundRatio
    rw [if_neg hA, hq]
    unfold FP.Core.roundAt FP.Core.unitsNum FP.Core.unitsDen
    rw [show ((k : Int) - 1074 - 0).toNat = 0 by omega, show ((0 : Int) - ((k : Int) - 1074)).toNat = 1074 - k by omega, Nat.pow_zero, Nat.mul_one, Nat.one_mul, qf_rn_add hd0 (by decide)]
    have e9 : FP.Core.nearest c (2 ^ (1074 - k)) = qf_rn (qf_Z s) := by
      unfold qf_rn
      rw [hz, ← qf_rn_scale (k := k) hd0, ← Nat.pow_add, show 1074 - k + k = 1074 by omega]
    rw [e9]
  unfold FP.Core.settle FP.Core.bound at hr
  rw [show FP.Core.b64.p = 53 from rfl, show FP.Core.b64.qmax = 971 from rfl, if_pos (show (0 : Int) ≤ 971 by decide), if_pos (show (0 : Int) + 1 ≤ 971 by decide)] at hr
  by_cases h9 : 2 ^ 52 + qf_rn (qf_Z s) < 2 ^ 53
  · rw [if_pos h9] at hr
    refine ⟨⟨_, _, _, hr⟩, ?_, ?_⟩
    · unfold qf_S
      rw [hr]
      rfl
    · show FP.Core.zmag FP.Core.b64 (FP.Core.val64 (FP.dadd s 4841369599423283200)) = _
      rw [hr]
      show (2 ^ 52 + qf_rn (qf_Z s)) * 2 ^ ((0 : Int) - FP.Core.b64.qmin).toNat = _
      rw [FP.Core.qmin_b64]
      rfl
  · rw [if_neg h9] at hr
    refine ⟨⟨_, _, _, hr⟩, ?_, ?_⟩
    · unfold qf_S
      rw [hr]
      rfl
    · show FP.Core.zmag FP.Core.b64 (FP.Core.val64 (FP.dadd s 4841369599423283200)) = _
      rw [hr]
      show FP.Core.b64.tails * 2 ^ ((0 : Int) + 1 - FP.Core.b64.qmin).toNat = _
      rw [FP.Core.qmin_b64, FP.Core.tails_b64, show ((0 : Int) + 1 - -1074).toNat = 1 + 1074 by decide, Nat.pow_add, ← Nat.mul_assoc, show 2 ^ 52 + qf_rn (qf_Z s) = 2 ^ 52 * 2 ^ 1 by omega]
abbrev qf_int (s : Bool) (n : Nat) : UInt64 := qf_mk s n 1074
theorem qf_int_of {s : Bool} {n : Nat} (h : n < 2 ^ 53) : qf_F (qf_int s n) ∧ qf_S (qf_int s n) = s ∧ qf_Z (qf_int s n) = n * 2 ^ 1074 := qf_mk_of h (by decide)
theorem qf_int_neg {s : Bool} {n : Nat} (h : n < 2 ^ 53) : FP.dneg (qf_int s n) = qf_int (!s) n := by
  obtain ⟨a1, a2, a3⟩ := qf_int_of (s := s) h
  obtain ⟨b1, b2, b3⟩ := qf_int_of (s := !s) h
  exact qf_fin_eq (qf_neg_F a1) b1 (by rw [qf_neg_S a1.N, a2, b2]) (by rw [qf_neg_Z a1.N, a3, b3])
theorem qf_back {s : UInt64} (hs : qf_F s) (h0 : qf_S s = false) (hlt : qf_Z s < 2 ^ 52 * 2 ^ 1074) : FP.dsub (FP.dadd s 4841369599423283200) 4841369599423283200 = qf_int false (qf_rn (qf_Z s)) := by
  obtain ⟨b1, b2, b3⟩ := qf_big hs h0 hlt
  have hl := qf_rn_le hlt
  obtain ⟨a1, a2, a3⟩ := qf_int_of (s := false) (n := qf_rn (qf_Z s)) (by omega)
  refine qf_dif b1 qf_BF a1 ?_ ?_
  · unfold qf_V
    rw [a2, a3, b2, b3, qf_BS, qf_BZ, qf_sgn0, qf_sgn0, qf_sgn0, Nat.add_mul]
    simp only [Bool.false_eq_true, if_false]
    omega
  · intro _
    rw [a2, b2]
    rfl
section
variable {w : qcW} {I : qTI} {L : qTL} {D : qTD} {R : qTR} {x : UInt64}
theorem qf_nzZ (hx : qf_N x) (h : qk x ≠ 0) : 0 < qf_Z x := by
  obtain ⟨y, -, y1, y2, y3, y4⟩ := qf_abs hx h
  rw [← y3]
  exact (qf_pz y1 (by omega)).2
theorem qf_lt52 (hx : qf_N x) (h : qk x ≠ 0) : qf_Z x < 2 ^ 52 * 2 ^ 1074 ↔ (-qk 4841369599423283200 < qk x ∧ qk x < qk 4841369599423283200) := by
  obtain ⟨y, -, y1, y2, y3, y4⟩ := qf_abs hx h
  rw [← y3, ← qf_BZ, ← qk_Z y1 qf_BF.N y2 qf_BS, y4]
  omega
theorem fx_nearest (hx : qf_N x) : fX8_nearest w I L D R x = some (if qk x = 0 then x else if qf_Z x < 2 ^ 52 * 2 ^ 1074 then qf_int (qf_S x) (qf_rn (qf_Z x)) else x, I, L, D, R) := by
  unfold fX8_nearest
  simp only [qk_eq hx qf_N0, qk_ge hx qf_N0, qk_0]
  by_cases h : qk x = 0
  · rw [if_pos h, if_pos h]
  · rw [if_neg h, if_neg h]
    obtain ⟨y, hy, y1, y2, y3, y4⟩ := qf_abs hx h
    have e1 : (if 0 ≤ qk x then fX8_nearest_b20 w I L D R x x else fX8_nearest_b20 w I L D R x (FP.dneg x)) = fX8_nearest_b20 w I L D R x y := by
      rw [← hy]
      split <;> rfl
    rw [e1]
    unfold fX8_nearest_b20 fX8_nearest_b39
    simp only [qk_ge hx qf_N0, qk_0, qk_ge y1 qf_BF.N]
    have hB := qk_Z y1 qf_BF.N y2 qf_BS
    rw [qf_BZ, y3] at hB
    by_cases h2 : qf_Z x < 2 ^ 52 * 2 ^ 1074
    · rw [if_neg (by have := hB.mpr h2; omega), if_pos h2]
      have hyF : qf_F y := qf_F_of y1 (by rw [y3]; exact Nat.lt_of_lt_of_le h2 (by rw [← Nat.pow_add]; exact Nat.pow_le_pow_right (by decide) (by decide)))
      obtain ⟨b1, b2, b3⟩ := qf_big hyF y2 (by rw [y3]; exact h2)
      have hb := qf_back hyF y2 (by rw [y3]; exact h2)
      have hl := qf_rn_le h2
      rw [y3] at hb
      obtain ⟨a1, a2, a3⟩ := qf_int_of (s := false) (n := qf_rn (qf_Z x)) (by omega)
      rw [(qf_n64 _).mpr b1.N, qc_gdt, hb, (qf_n64 _).mpr a1.N, qc_gdt]
      by_cases h3 : 0 ≤ qk x
      · rw [if_pos h3, (qf_pz hx (by omega)).1]
      · rw [if_neg h3, qf_int_neg (by omega), qf_SM hx, qf_M_lt (by omega)]
        rfl
    · rw [if_pos (by have := fun q => h2 (hB.mp q); omega), if_neg h2]
      by_cases h3 : 0 ≤ qk x
      · rw [if_pos h3]
        rw [if_pos h3] at hy
        rw [hy]
      · rw [if_neg h3]
        rw [if_neg h3] at hy
        rw [← hy, qf_neg_neg hx]
end
