/-! floor of both, and the reference's nearest -/
theorem qk_Zt {x y : UInt64} (hx : qf_N x) (hy : qf_N y) (sx : qf_S x = true) (sy : qf_S y = true) : qk x < qk y ↔ qf_Z y < qf_Z x := by
  have h1 := qk_Z (qf_neg_N hy) (qf_neg_N hx) (by rw [qf_neg_S hy, sy]; rfl) (by rw [qf_neg_S hx, sx]; rfl)
  rw [qk_neg hx, qk_neg hy, qf_neg_Z hx, qf_neg_Z hy] at h1
  rw [← h1]
  omega
theorem qf_one : (4607182418800017408 : UInt64) = qf_int false 1 := by
  obtain ⟨a1, a2, a3⟩ := qf_int_of (s := false) (n := 1) (by decide)
  exact qf_fin_eq ⟨_, _, _, qf_1⟩ a1 (by rw [a2, qf_1S]) (by rw [a3, qf_1Z, Nat.one_mul])
theorem qf_zero : (0 : UInt64) = qf_int false 0 := by
  obtain ⟨a1, a2, a3⟩ := qf_int_of (s := false) (n := 0) (by decide)
  exact qf_fin_eq (by rw [qf_F_iff]; decide) a1 (by rw [a2]; decide +kernel) (by rw [a3, Nat.zero_mul]; decide +kernel)
theorem qf_int_V {s : Bool} {n : Nat} (h : n < 2 ^ 53) : qf_V (qf_int s n) = if s = true then -((n * 2 ^ 1074 : Nat) : Int) else ((n * 2 ^ 1074 : Nat) : Int) := by
  obtain ⟨a1, a2, a3⟩ := qf_int_of (s := s) h
  unfold qf_V
  rw [a2, a3, qf_sgn0]
theorem qf_i_sub {n : Nat} (h : n + 1 < 2 ^ 53) : FP.dsub (qf_int false (n + 1)) (qf_int false 1) = qf_int false n := by
  refine qf_dif (qf_int_of h).1 (qf_int_of (by decide)).1 (qf_int_of (by omega)).1 ?_ (fun _ => ?_)
  · rw [qf_int_V (by omega), qf_int_V h, qf_int_V (by decide), Nat.add_mul]
    simp only [Bool.false_eq_true, if_false]
    omega
  · rw [(qf_int_of (by omega)).2.1, (qf_int_of (by omega)).2.1]
    rfl
theorem qf_i_subt {n : Nat} (h : n + 1 < 2 ^ 53) : FP.dsub (qf_int true n) (qf_int false 1) = qf_int true (n + 1) := by
  refine qf_dif (qf_int_of (by omega)).1 (qf_int_of (by decide)).1 (qf_int_of h).1 ?_ (fun _ => ?_)
  · rw [qf_int_V h, qf_int_V (by omega), qf_int_V (by decide), Nat.add_mul]
    simp only [Bool.false_eq_true, if_false, if_true]
    omega
  · rw [(qf_int_of (by omega)).2.1, (qf_int_of (by omega)).2.1, (qf_int_of (by decide)).2.1]
    rfl
theorem qf_i_sub0 : FP.dsub (qf_int false 0) (qf_int false 1) = qf_int true 1 := by
  refine qf_dif (qf_int_of (by decide)).1 (qf_int_of (by decide)).1 (qf_int_of (by decide)).1 ?_ (fun h => ?_)
  · rw [qf_int_V (by decide), qf_int_V (by decide), qf_int_V (by decide)]
    simp only [Bool.false_eq_true, if_false, if_true]
    omega
  · rw [(qf_int_of (by decide)).2.2, Nat.one_mul] at h
    exact absurd h (Nat.ne_of_gt (Nat.two_pow_pos _))
theorem qf_i_add {n : Nat} (h : n + 1 < 2 ^ 53) : FP.dadd (qf_int false n) (qf_int false 1) = qf_int false (n + 1) := by
  refine qf_sum (qf_int_of (by omega)).1 (qf_int_of (by decide)).1 (qf_int_of h).1 ?_ (fun _ => ?_)
  · rw [qf_int_V h, qf_int_V (by omega), qf_int_V (by decide), Nat.add_mul]
    simp only [Bool.false_eq_true, if_false]
    omega
  · rw [(qf_int_of (by omega)).2.1, (qf_int_of (by omega)).2.1]
    rfl
theorem qf_i_addt {n : Nat} (h : n + 1 < 2 ^ 53) : FP.dadd (qf_int true (n + 1)) (qf_int false 1) = qf_int (decide (n ≠ 0)) n := by
  refine qf_sum (qf_int_of h).1 (qf_int_of (by decide)).1 (qf_int_of (by omega)).1 ?_ (fun h0 => ?_)
  · rw [qf_int_V (by omega), qf_int_V h, qf_int_V (by decide), Nat.add_mul]
    by_cases q : n = 0
    · subst q
      rw [show decide ((0 : Nat) ≠ 0) = false by decide]
      simp only [Bool.false_eq_true, if_false, if_true]
      omega
    · rw [decide_eq_true q]
      simp only [Bool.false_eq_true, if_false, if_true]
      omega
  · rw [(qf_int_of (by omega)).2.2] at h0
    rw [(qf_int_of (by omega)).2.1, (qf_int_of h).2.1, (qf_int_of (by decide)).2.1]
    have : n = 0 := by
      rcases Nat.mul_eq_zero.mp h0 with h5 | h5
      · exact h5
      · exact absurd h5 (Nat.ne_of_gt (Nat.two_pow_pos _))
    rw [this]
    rfl
theorem qf_rn_q (z : Nat) : qf_rn z = z / 2 ^ 1074 ∨ (qf_rn z = z / 2 ^ 1074 + 1 ∧ z % 2 ^ 1074 ≠ 0) := by
  have hp := Nat.two_pow_pos 1074
  unfold qf_rn FP.Core.nearest
  split
  · exact Or.inl rfl
  · split
    · exact Or.inr ⟨rfl, by omega⟩
    · rcases Nat.mod_two_eq_zero_or_one (z / 2 ^ 1074) with h | h
      · exact Or.inl (by omega)
      · exact Or.inr ⟨by omega, by omega⟩
/-- what floor answers -/
def qf_fl (x : UInt64) : UInt64 := if qk x = 0 then x else if qf_Z x < 2 ^ 52 * 2 ^ 1074 then (if qf_S x = true then qf_int true (if qf_Z x % 2 ^ 1074 = 0 then qf_Z x / 2 ^ 1074 else qf_Z x / 2 ^ 1074 + 1) else qf_int false (qf_Z x / 2 ^ 1074)) else x
def qf_nr (x : UInt64) : UInt64 := if qk x = 0 then x else if qf_Z x < 2 ^ 52 * 2 ^ 1074 then qf_int (qf_S x) (qf_rn (qf_Z x)) else x
section
variable {w : qcW} {I : qTI} {L : qTL} {D : qTD} {R : qTR} {x : UInt64}
theorem qf_q52 {z : Nat} (h : z < 2 ^ 52 * 2 ^ 1074) : z / 2 ^ 1074 < 2 ^ 52 := Nat.div_lt_of_lt_mul (by rw [Nat.mul_comm]; exact h)
theorem fx_floor (hx : qf_N x) : fX8_floor w I L D R x = some (qf_fl x, I, L, D, R) := by
  unfold fX8_floor qf_fl
  rw [fx_nearest hx]
  show (if Op.cmpValue (FP.dcmp (if qk x = 0 then x else if qf_Z x < 2 ^ 52 * 2 ^ 1074 then qf_int (qf_S x) (qf_rn (qf_Z x)) else x) x) .l ≤ 0 then _ else _) = _
  by_cases h : qk x = 0
  · simp only [if_pos h]
    rw [if_pos ((qk_le hx hx).mpr (Int.le_refl _))]
  · simp only [if_neg h]
    by_cases h2 : qf_Z x < 2 ^ 52 * 2 ^ 1074
    · simp only [if_pos h2]
      have hq := qf_q52 h2
      have hr := qf_rn_le h2
      have hdm := Nat.div_add_mod (qf_Z x) (2 ^ 1074)
      have hml := Nat.mod_lt (qf_Z x) (Nat.two_pow_pos 1074)
      obtain ⟨a1, a2, a3⟩ := qf_int_of (s := qf_S x) (n := qf_rn (qf_Z x)) (by omega)
      simp only [qk_le a1.N hx]
      rw [qf_one]
      cases hs : qf_S x
      · rw [hs] at a1 a2 a3
        have hc := qk_Z hx a1.N hs a2
        rw [a3] at hc
        simp only [Bool.false_eq_true, if_false]
        rcases qf_rn_q (qf_Z x) with h5 | ⟨h5, h6⟩
        · rw [if_pos (by
            have : ¬ qk x < qk (qf_int false (qf_rn (qf_Z x))) := by
              rw [hc, h5, Nat.mul_comm]
              omega
            omega), h5]
        · rw [if_neg (by
            have : qk x < qk (qf_int false (qf_rn (qf_Z x))) := by
              rw [hc, h5, Nat.add_mul, Nat.mul_comm]
              omega
            omega), h5, qf_i_sub (by omega), (qf_n64 _).mpr (qf_int_of (by omega)).1.N]
          rfl
      · rw [hs] at a1 a2 a3
        have hc := qk_Zt hx a1.N hs a2
        rw [a3] at hc
        simp only [if_true]
        rcases qf_rn_q (qf_Z x) with h5 | ⟨h5, h6⟩
        · by_cases h7 : qf_Z x % 2 ^ 1074 = 0
          · rw [if_pos h7, if_pos (by
              have : ¬ qk x < qk (qf_int true (qf_rn (qf_Z x))) := by
                rw [hc, h5, Nat.mul_comm]
                omega
              omega), h5]
          · rw [if_neg h7, if_neg (by
              have : qk x < qk (qf_int true (qf_rn (qf_Z x))) := by
                rw [hc, h5, Nat.mul_comm]
                omega
              omega), h5, qf_i_subt (by omega), (qf_n64 _).mpr (qf_int_of (by omega)).1.N]
            rfl
        · rw [if_neg h6, if_pos (by
            have : ¬ qk x < qk (qf_int true (qf_rn (qf_Z x))) := by
              rw [hc, h5, Nat.add_mul, Nat.mul_comm]
              omega
            omega), h5]
    · simp only [if_neg h2]
      rw [if_pos ((qk_le hx hx).mpr (Int.le_refl _))]
theorem qf_nB : (14064741636278059008 : UInt64) = FP.dneg 4841369599423283200 := by decide +kernel
theorem qf_nlt (hx : qf_N x) (h : qk x ≠ 0) : (¬ 0 ≤ Op.cmpValue (FP.dcmp x 4841369599423283200) .l ∧ 0 < Op.cmpValue (FP.dcmp x 14064741636278059008) .g) ↔ qf_Z x < 2 ^ 52 * 2 ^ 1074 := by
  rw [qf_nB, qk_ge hx qf_BF.N, qk_gt hx (qf_neg_N qf_BF.N), qk_neg qf_BF.N, qf_lt52 hx h]
  omega
theorem qf_d2l_of (hx : qf_F x) (h2 : qf_Z x < 2 ^ 52 * 2 ^ 1074) : FP.l2d (FP.d2l x) = if qf_S x = true ∧ qf_Z x / 2 ^ 1074 ≠ 0 then qf_int true (qf_Z x / 2 ^ 1074) else qf_int false (qf_Z x / 2 ^ 1074) := by
  have hq := qf_q52 h2
  have h3 := FP.Core.d2l_val hx.N
  rw [show FP.Core.sgn (FP.Core.val64 x) = qf_S x from rfl, show FP.Core.zmag FP.Core.b64 (FP.Core.val64 x) = qf_Z x from rfl, show FP.Core.one64 = 2 ^ 1074 from rfl] at h3
  generalize qf_Z x / 2 ^ 1074 = q at *
  have hn : FP.d2l x = if qf_S x = true then -nL q else nL q := by
    apply Int64.toInt_inj.mp
    show (FP.Core.d2l x).toInt = _
    rw [h3, qf_sgn0]
    split
    · rw [Int64.toInt_neg, nL_toInt (by omega)]
      rw [Int.bmod_eq_of_le (by omega) (by omega)]
      omega
    · rw [nL_toInt (by omega)]
      omega
  rw [hn]
  by_cases hs : qf_S x = true
  · rw [if_pos hs]
    by_cases h0 : q = 0
    · rw [if_neg (by rintro ⟨_, h⟩; exact h h0), h0, show -nL 0 = nL 0 by decide, qf_l2d (by decide)]
    · have h9 : nL q ≠ 0 := by
        intro h
        have := (nL_inj (a := q) (b := 0) (by omega) (by decide)).mp h
        omega
      have h10 : FP.l2d (-nL q) = FP.Core.dneg (FP.l2d (nL q)) := FP.Core.l2d_neg h9 (by rw [nL_toInt (by omega)]; omega)
      rw [if_pos ⟨hs, h0⟩, h10, qf_l2d (by omega), ← FP.dneg_core ((FP.Core.notNaN_iff _).mpr (qf_int_of (s := false) (n := q) (by omega)).1.N), qf_int_neg (by omega)]
      rfl
  · rw [if_neg hs, if_neg (by rintro ⟨h, _⟩; exact hs h), qf_l2d (by omega)]
theorem fm_floor (hx : qf_N x) : fX12_floor w I L D R x = some (qf_fl x, I, L, D, R) := by
  unfold fX12_floor qf_fl
  simp only [qk_eq hx qf_N0, qk_0]
  by_cases h : qk x = 0
  · rw [if_pos h, if_pos h]
  · rw [if_neg h, if_neg h]
    have hlt := qf_nlt hx h
    by_cases h2 : qf_Z x < 2 ^ 52 * 2 ^ 1074
    · have hxF : qf_F x := qf_F_of hx (Nat.lt_of_lt_of_le h2 (by rw [← Nat.pow_add]; exact Nat.pow_le_pow_right (by decide) (by decide)))
      obtain ⟨c1, c2⟩ := hlt.mpr h2
      rw [if_neg c1, if_pos c2, if_pos h2, qf_d2l_of hxF h2, qf_one]
      have hq := qf_q52 h2
      have hdm := Nat.div_add_mod (qf_Z x) (2 ^ 1074)
      have hml := Nat.mod_lt (qf_Z x) (Nat.two_pow_pos 1074)
      have hpos := qf_nzZ hx h
      cases hs : qf_S x
      · simp only [Bool.false_eq_true, false_and, if_false]
        obtain ⟨a1, a2, a3⟩ := qf_int_of (s := false) (n := qf_Z x / 2 ^ 1074) (by omega)
        rw [if_pos]
        rw [qk_le a1.N hx]
        have : ¬ qk x < qk (qf_int false (qf_Z x / 2 ^ 1074)) := by
          rw [qk_Z hx a1.N hs a2, a3, Nat.mul_comm]
          omega
        omega
      · simp only [true_and, if_true]
        by_cases h0 : qf_Z x / 2 ^ 1074 = 0
        · simp only [h0, ne_eq, not_true, if_false]
          rw [h0] at hdm
          obtain ⟨a1, a2, a3⟩ := qf_int_of (s := false) (n := 0) (by decide)
          rw [if_neg, if_neg (by omega), qf_i_sub0, (qf_n64 _).mpr (qf_int_of (by decide)).1.N]
          · rfl
          · rw [qk_le a1.N hx, ← qf_zero, qk_0]
            have : qk x < 0 := by
              rcases Int.lt_or_le (qk x) 0 with h6 | h6
              · exact h6
              · have := (qf_pz hx (by omega)).1
                rw [hs] at this
                cases this
            omega
        · simp only [if_pos (show qf_Z x / 2 ^ 1074 ≠ 0 from h0)]
          obtain ⟨a1, a2, a3⟩ := qf_int_of (s := true) (n := qf_Z x / 2 ^ 1074) (by omega)
          have hc := qk_Zt hx a1.N hs a2
          rw [a3, Nat.mul_comm] at hc
          simp only [qk_le a1.N hx]
          by_cases h7 : qf_Z x % 2 ^ 1074 = 0
          · rw [if_pos h7, if_pos (by
              have : ¬ qk x < qk (qf_int true (qf_Z x / 2 ^ 1074)) := by
                rw [hc]
                omega
              omega)]
          · rw [if_neg h7, if_neg (by
              have : qk x < qk (qf_int true (qf_Z x / 2 ^ 1074)) := by
                rw [hc]
                omega
              omega), qf_i_subt (by omega), (qf_n64 _).mpr (qf_int_of (by omega)).1.N]
            rfl
    · rw [if_neg h2]
      by_cases c1 : 0 ≤ Op.cmpValue (FP.dcmp x 4841369599423283200) .l
      · rw [if_pos c1]
      · rw [if_neg c1, if_neg (fun q => h2 (hlt.mp ⟨c1, q⟩))]
end
