/-! joined doubles and floats: no NaN where nothing is lost; both alike -/
theorem qf_inf_of {x : UInt64} {s : Bool} (h : FP.Core.val64 x = .inf s) : qf_E x = true ∧ qf_M x = s := by
  have hN : qf_N x := by unfold qf_N; rw [h]; exact fun q => by cases q
  have hnF : ¬ qf_F x := by rintro ⟨a, b, c, q⟩; rw [h] at q; cases q
  rw [qf_F_iff] at hnF
  have h1 := (qf_N_iff x).mp hN
  refine ⟨decide_eq_true (by omega), ?_⟩
  rw [← qf_SM hN]
  unfold qf_S
  rw [h]
  rfl
theorem qf_zero_of {x : UInt64} (h : FP.Core.DZero x) : qf_z x = true := by
  rw [FP.Core.zero_bits2] at h
  have := x.toNat_lt
  unfold qf_z
  apply decide_eq_true
  rw [qk_S]
  split <;> omega
theorem qf_nn {r : UInt64} (h : ¬ FP.Core.dIsNaN r = true) : qf_N r := (FP.Core.notNaN_iff r).mp (by cases e : FP.Core.dIsNaN r; rfl; exact absurd e h)
theorem qf_add_N {x y : UInt64} (hx : qf_N x) (hy : qf_N y) (h : qf_lost 1 x y = false) : qf_N (FP.dadd x y) := by
  apply qf_nn
  rw [FP.Core.dadd_nan_iff]
  rintro (q | q | ⟨s, q1, q2⟩)
  · exact hx q
  · exact hy q
  · obtain ⟨a1, a2⟩ := qf_inf_of q1
    obtain ⟨b1, b2⟩ := qf_inf_of q2
    unfold qf_lost at h
    rw [if_pos rfl, a1, a2, b1, b2] at h
    cases s <;> cases h
theorem qf_sub_N {x y : UInt64} (hx : qf_N x) (hy : qf_N y) (h : qf_lost 2 x y = false) : qf_N (FP.dsub x y) := by
  apply qf_nn
  rw [FP.Core.dsub_nan_iff]
  rintro (q | q | ⟨s, q1, q2⟩)
  · exact hx q
  · exact hy q
  · obtain ⟨a1, a2⟩ := qf_inf_of q1
    obtain ⟨b1, b2⟩ := qf_inf_of q2
    unfold qf_lost at h
    rw [if_neg (by decide), if_pos rfl, a1, a2, b1, b2] at h
    cases s <;> cases h
theorem qf_mul_N {x y : UInt64} (hx : qf_N x) (hy : qf_N y) (h : qf_lost 3 x y = false) : qf_N (FP.dmul x y) := by
  apply qf_nn
  rw [FP.Core.dmul_nan_iff]
  unfold qf_lost at h
  rw [if_neg (by decide), if_neg (by decide), if_pos rfl] at h
  rintro (q | q | ⟨s, q1, q2⟩ | ⟨s, q1, q2⟩)
  · exact hx q
  · exact hy q
  · rw [(qf_inf_of q1).1, qf_zero_of q2] at h
    revert h
    cases qf_z x && qf_E y <;> decide
  · rw [(qf_inf_of q2).1, qf_zero_of q1] at h
    cases h
theorem qf_div_N {x y : UInt64} (hx : qf_N x) (hy : qf_N y) (h : qf_lost 4 x y = false) : qf_N (FP.ddiv x y) := by
  apply qf_nn
  rw [FP.Core.ddiv_nan_iff]
  unfold qf_lost at h
  rw [if_neg (by decide), if_neg (by decide), if_neg (by decide), if_pos rfl] at h
  rintro (q | q | ⟨s, t, q1, q2⟩ | ⟨q1, q2⟩)
  · exact hx q
  · exact hy q
  · rw [(qf_inf_of q1).1, (qf_inf_of q2).1] at h
    cases h
  · rw [qf_zero_of q1, qf_zero_of q2] at h
    revert h
    cases qf_E x && qf_E y <;> decide
theorem qf_rem_ok {x y : UInt64} (hx : qf_N x) (h : (qf_E x || qf_z y) = false) : qf_F x ∧ qk y ≠ 0 := by
  rw [Bool.or_eq_false_iff] at h
  have h1 := (qf_N_iff x).mp hx
  refine ⟨?_, fun q => ?_⟩
  · rw [qf_F_iff]
    have h2 := of_decide_eq_false h.1
    omega
  · have h2 := of_decide_eq_false h.2
    exact h2 q
theorem qf_rem_N {x y : UInt64} (hx : qf_N x) (hy : qf_N y) (h : (qf_E x || qf_z y) = false) : qf_N (FP.drem x y) := by
  obtain ⟨h1, h2⟩ := qf_rem_ok hx h
  apply qf_nn
  rw [FP.Core.drem_nan_iff]
  rintro (q | q | ⟨s, q⟩ | q)
  · exact hx q
  · exact hy q
  · obtain ⟨a, b, c, d⟩ := h1
    rw [d] at q
    cases q
  · have := qf_zero_of q
    exact h2 (of_decide_eq_true this)
def qf_join (op : Int32) (x y : UInt64) : UInt64 := if op = 1 then FP.dadd x y else if op = 2 then FP.dsub x y else if op = 3 then FP.dmul x y else if op = 4 then FP.ddiv x y else FP.drem x y
section
variable {w : qcW} {I : qTI} {L : qTL} {D : qTD} {R : qTR} {x y : UInt64}
theorem qf_join_N {op : Int32} (hx : qf_N x) (hy : qf_N y) (h : qf_lost op x y = false) : qf_N (qf_join op x y) := by
  unfold qf_join
  by_cases h1 : op = 1
  · rw [if_pos h1]
    exact qf_add_N hx hy (by rw [h1] at h; exact h)
  · rw [if_neg h1]
    by_cases h2 : op = 2
    · rw [if_pos h2]
      exact qf_sub_N hx hy (by rw [h2] at h; exact h)
    · rw [if_neg h2]
      by_cases h3 : op = 3
      · rw [if_pos h3]
        exact qf_mul_N hx hy (by rw [h3] at h; exact h)
      · rw [if_neg h3]
        by_cases h4 : op = 4
        · rw [if_pos h4]
          exact qf_div_N hx hy (by rw [h4] at h; exact h)
        · rw [if_neg h4]
          unfold qf_lost at h
          rw [if_neg h1, if_neg h2, if_neg h3, if_neg h4] at h
          exact qf_rem_N hx hy h
theorem fx_joined {op : Int32} (hx : qf_N x) (hy : qf_N y) (h : qf_lost op x y = false) : fX8_joined w I L D R op x y = some (qf_join op x y, I, L, D, R) := by
  have hN := qf_join_N hx hy h
  unfold fX8_joined
  unfold qf_join at hN ⊢
  by_cases h1 : op = 1
  · rw [if_pos h1] at hN ⊢
    rw [if_pos h1, (qf_n64 _).mpr hN]
    rfl
  · rw [if_neg h1] at hN ⊢
    rw [if_neg h1]
    by_cases h2 : op = 2
    · rw [if_pos h2] at hN ⊢
      rw [if_pos h2, (qf_n64 _).mpr hN]
      rfl
    · rw [if_neg h2] at hN ⊢
      rw [if_neg h2]
      by_cases h3 : op = 3
      · rw [if_pos h3] at hN ⊢
        rw [if_pos h3, (qf_n64 _).mpr hN]
        rfl
      · rw [if_neg h3] at hN ⊢
        rw [if_neg h3]
        by_cases h4 : op = 4
        · rw [if_pos h4] at hN ⊢
          rw [if_pos h4, (qf_n64 _).mpr hN]
          rfl
        · rw [if_neg h4] at hN ⊢
          rw [if_neg h4]
          unfold qf_lost at h
          rw [if_neg h1, if_neg h2, if_neg h3, if_neg h4] at h
          obtain ⟨r1, r2⟩ := qf_rem_ok hx h
          rw [fx_remainder r1 hy r2]
          rfl
theorem fm_joined {op : Int32} (hx : qf_N x) (hy : qf_N y) (h : qf_lost op x y = false) : fX12_reckonedReal w I L D R op x y = some (qf_join op x y, I, L, D, R) := by
  have hN := (qf_n64 _).mpr (qf_join_N hx hy h)
  unfold fX12_reckonedReal
  unfold qf_join at hN ⊢
  by_cases h1 : op = 1
  · simp only [if_pos h1] at hN ⊢
    rw [hN]
    rfl
  · simp only [if_neg h1] at hN ⊢
    by_cases h2 : op = 2
    · simp only [if_pos h2] at hN ⊢
      rw [hN]
      rfl
    · simp only [if_neg h2] at hN ⊢
      by_cases h3 : op = 3
      · simp only [if_pos h3] at hN ⊢
        rw [hN]
        rfl
      · simp only [if_neg h3] at hN ⊢
        by_cases h4 : op = 4
        · simp only [if_pos h4] at hN ⊢
          rw [hN]
          rfl
        · simp only [if_neg h4] at hN ⊢
          rw [hN]
          rfl
theorem fx_compared (hx : qf_N x) (hy : qf_N y) : fX8_compared w I L D R x y = some (if qk x < qk y then -1 else if qk y < qk x then 1 else 0, I, L, D, R) := by
  unfold fX8_compared
  simp only [qk_ge hx hy, qk_le hx hy]
  rcases Int.lt_trichotomy (qk x) (qk y) with h | h | h
  · rw [if_neg (by omega), if_pos h]
  · rw [if_pos (by omega), if_pos (by omega), if_neg (by omega), if_neg (by omega)]
  · rw [if_pos (by omega), if_neg (by omega), if_neg (by omega), if_pos h]
theorem fx_signOf (hx : qf_N x) : fX8_signOf w I L D R x = some (if qk x = 0 then x else if qk x < 0 then 13830554455654793216 else 4607182418800017408, I, L, D, R) := by
  unfold fX8_signOf
  simp only [qk_eq hx qf_N0, qk_ge hx qf_N0, qk_0]
  by_cases h : qk x = 0
  · rw [if_pos h, if_pos h]
  · rw [if_neg h, if_neg h]
    by_cases h2 : qk x < 0
    · rw [if_neg (by omega), if_pos h2]
    · rw [if_pos (by omega), if_neg h2]
end
/-! floats -/
theorem qf_nn32 {r : UInt32} (h : ¬ FP.Core.fIsNaN r = true) : qf_N32 r := (FP.Core.notNaN_iff32 r).mp (by cases e : FP.Core.fIsNaN r; rfl; exact absurd e h)
theorem qf_f2d_E {a : UInt32} (hN : qf_N32 a) : qf_E (FP.f2d a) = decide (a.toNat % 2 ^ 31 = 2139095040) := by
  have h1 := (qf_N32_iff a).mp hN
  by_cases h : a.toNat % 2 ^ 31 = 2139095040
  · rw [decide_eq_true h]
    unfold qf_E
    rw [qf_f2d_inf h]
    split <;> decide
  · rw [decide_eq_false h]
    have h2 := (qf_F_iff _).mp (qf_f2d_fin (a := a) (by omega)).1
    unfold qf_E
    exact decide_eq_false (by omega)
theorem qf_f2d_z {a : UInt32} (hN : qf_N32 a) : qf_z (FP.f2d a) = decide (a.toNat % 2 ^ 31 = 0) := by
  have h1 := (qf_N32_iff a).mp hN
  have hd := qf_f2d_N hN
  by_cases h : a.toNat % 2 ^ 31 = 2139095040
  · rw [decide_eq_false (by omega)]
    have hE : qf_E (FP.f2d a) = true := by rw [qf_f2d_E hN]; exact decide_eq_true h
    have h2 := qf_E_key hd hE
    unfold qf_z
    apply decide_eq_false
    rw [h2]
    split <;> omega
  · obtain ⟨f1, f2, f3⟩ := qf_f2d_fin (a := a) (by omega)
    by_cases h0 : a.toNat % 2 ^ 31 = 0
    · rw [decide_eq_true h0]
      rw [h0, FP.Core.unitsOf_zero, Nat.zero_mul] at f3
      exact decide_eq_true (qf_k0 hd f3)
    · rw [decide_eq_false h0]
      apply decide_eq_false
      intro q
      have hz : qf_Z (FP.f2d a) = 0 := by
        rcases qf_z0 q with e | e <;> rw [e] <;> decide +kernel
      rw [f3] at hz
      rcases Nat.mul_eq_zero.mp hz with h5 | h5
      · exact h0 (FP.Core.unitsOf_eq_zero.mp h5)
      · exact absurd h5 (Nat.ne_of_gt (Nat.two_pow_pos _))
theorem qf_inf_of32 {a : UInt32} {s : Bool} (h : FP.Core.val32 a = .inf s) : a.toNat % 2 ^ 31 = 2139095040 ∧ decide (2 ^ 31 ≤ a.toNat) = s := by
  have hN : qf_N32 a := by unfold qf_N32; rw [h]; exact fun q => by cases q
  have hnF : ¬ FP.Core.FFin a := by rintro ⟨x, b, c, q⟩; rw [h] at q; cases q
  rw [FP.Core.fin_bits32] at hnF
  have h1 := (qf_N32_iff a).mp hN
  refine ⟨by omega, ?_⟩
  rw [← FP.Core.sgn_bits32 hN, h]
  rfl
def qf_fj (op : Int32) (a b : UInt32) : UInt32 := if op = 1 then FP.fadd a b else if op = 2 then FP.fsub a b else if op = 3 then FP.fmul a b else if op = 4 then FP.fdiv a b else FP.frem a b
theorem qf_fj_N {op : Int32} {a b : UInt32} (ha : qf_N32 a) (hb : qf_N32 b) (h : qf_lost op (FP.f2d a) (FP.f2d b) = false) : qf_N32 (qf_fj op a b) := by
  unfold qf_lost at h
  rw [qf_f2d_E ha, qf_f2d_E hb, qf_f2d_z ha, qf_f2d_z hb, qf_f2d_M ha, qf_f2d_M hb] at h
  unfold qf_fj
  by_cases h1 : op = 1
  · rw [if_pos h1] at h ⊢
    apply qf_nn32
    rw [FP.Core.fadd_nan_iff]
    rintro (q | q | ⟨s, q1, q2⟩)
    · exact ha q
    · exact hb q
    · obtain ⟨a1, a2⟩ := qf_inf_of32 q1
      obtain ⟨b1, b2⟩ := qf_inf_of32 q2
      rw [a2, b2, decide_eq_true a1, decide_eq_true b1] at h
      cases s <;> cases h
  · rw [if_neg h1] at h ⊢
    by_cases h2 : op = 2
    · rw [if_pos h2] at h ⊢
      apply qf_nn32
      rw [FP.Core.fsub_nan_iff]
      rintro (q | q | ⟨s, q1, q2⟩)
      · exact ha q
      · exact hb q
      · obtain ⟨a1, a2⟩ := qf_inf_of32 q1
        obtain ⟨b1, b2⟩ := qf_inf_of32 q2
        rw [a2, b2, decide_eq_true a1, decide_eq_true b1] at h
        cases s <;> cases h
    · rw [if_neg h2] at h ⊢
      by_cases h3 : op = 3
      · rw [if_pos h3] at h ⊢
        apply qf_nn32
        rw [FP.Core.fmul_nan_iff]
        rintro (q | q | ⟨s, q1, q2⟩ | ⟨s, q1, q2⟩)
        · exact ha q
        · exact hb q
        · rw [decide_eq_true (qf_inf_of32 q1).1, decide_eq_true ((FP.Core.zero_bits232 b).mp q2)] at h
          revert h
          cases (decide (a.toNat % 2 ^ 31 = 0) && decide (b.toNat % 2 ^ 31 = 2139095040)) <;> decide
        · rw [decide_eq_true (qf_inf_of32 q2).1, decide_eq_true ((FP.Core.zero_bits232 a).mp q1)] at h
          cases h
      · rw [if_neg h3] at h ⊢
        by_cases h4 : op = 4
        · rw [if_pos h4] at h ⊢
          apply qf_nn32
          rw [FP.Core.fdiv_nan_iff]
          rintro (q | q | ⟨s, t, q1, q2⟩ | ⟨q1, q2⟩)
          · exact ha q
          · exact hb q
          · rw [decide_eq_true (qf_inf_of32 q1).1, decide_eq_true (qf_inf_of32 q2).1] at h
            cases h
          · rw [decide_eq_true ((FP.Core.zero_bits232 a).mp q1), decide_eq_true ((FP.Core.zero_bits232 b).mp q2)] at h
            revert h
            cases (decide (a.toNat % 2 ^ 31 = 2139095040) && decide (b.toNat % 2 ^ 31 = 2139095040)) <;> decide
        · rw [if_neg h4] at h ⊢
          apply qf_nn32
          rw [FP.Core.frem_nan_iff]
          rintro (q | q | ⟨s, q⟩ | q)
          · exact ha q
          · exact hb q
          · rw [decide_eq_true (qf_inf_of32 q).1] at h
            cases h
          · rw [decide_eq_true ((FP.Core.zero_bits232 b).mp q)] at h
            revert h
            cases (decide (a.toNat % 2 ^ 31 = 2139095040)) <;> decide
