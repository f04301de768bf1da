/-! joined floats -/
theorem qf_Zf {a : UInt32} (h : a.toNat % 2 ^ 31 < 2139095040) : qf_Z (FP.f2d a) = FP.Core.zmag FP.Core.b32 (FP.Core.val32 a) * 2 ^ 925 := by
  rw [(qf_f2d_fin h).2.2, FP.Core.zmag_bits32 (by rw [FP.Core.ne_nan32]; omega)]
theorem qf_Sf {a : UInt32} (hN : qf_N32 a) : qf_S (FP.f2d a) = FP.Core.sgn (FP.Core.val32 a) := by
  rw [qf_SM (qf_f2d_N hN), qf_f2d_M hN, FP.Core.sgn_bits32 hN]
theorem qf_frem {a b : UInt32} (ha : a.toNat % 2 ^ 31 < 2139095040) (hb : qf_N32 b) (h0 : b.toNat % 2 ^ 31 ≠ 0) : FP.drem (FP.f2d a) (FP.f2d b) = FP.f2d (FP.frem a b) := by
  have haN : qf_N32 a := by rw [qf_N32_iff]; omega
  have hb2 := (qf_N32_iff b).mp hb
  have hF : FP.Core.FFin a := (FP.Core.fin_bits32 a).mpr ha
  have hz : ¬ FP.Core.FZero b := fun q => h0 ((FP.Core.zero_bits232 b).mp q)
  obtain ⟨m1, m2, m3⟩ := FP.Core.frem_zval hF hb hz
  obtain ⟨f1, f2, f3⟩ := qf_f2d_fin ha
  have hzd : ¬ FP.Core.DZero (FP.f2d b) := by
    intro q
    have := qf_zero_of q
    rw [qf_f2d_z hb] at this
    exact h0 (of_decide_eq_true this)
  obtain ⟨d1, d2, d3⟩ := FP.Core.drem_zval f1 (qf_f2d_N hb) hzd
  have hlt : FP.Core.zmag FP.Core.b32 (FP.Core.val32 (FP.frem a b)) ≤ FP.Core.zmag FP.Core.b32 (FP.Core.val32 a) := by
    show FP.Core.zmag FP.Core.b32 (FP.Core.val32 (FP.Core.frem a b)) ≤ _
    rw [m3]
    exact Nat.mod_le _ _
  have hN : qf_N32 (FP.frem a b) := m1
  have hrf : (FP.frem a b).toNat % 2 ^ 31 < 2139095040 := by
    have h1 := (qf_N32_iff _).mp hN
    rw [FP.Core.zmag_bits32 hN, FP.Core.zmag_bits32 haN, FP.Core.unitsOf_le_iff] at hlt
    omega
  refine qf_eq d1 (qf_f2d_N hN) ?_ ?_
  · show FP.Core.sgn (FP.Core.val64 (FP.Core.drem (FP.f2d a) (FP.f2d b))) = _
    rw [d2, qf_Sf hN]
    show qf_S (FP.f2d a) = FP.Core.sgn (FP.Core.val32 (FP.Core.frem a b))
    rw [m2, qf_Sf haN]
  · show FP.Core.zmag FP.Core.b64 (FP.Core.val64 (FP.Core.drem (FP.f2d a) (FP.f2d b))) = _
    rw [d3, qf_Zf hrf]
    show qf_Z (FP.f2d a) % qf_Z (FP.f2d b) = FP.Core.zmag FP.Core.b32 (FP.Core.val32 (FP.Core.frem a b)) * _
    rw [m3, qf_Zf ha]
    by_cases hbi : b.toNat % 2 ^ 31 = 2139095040
    · have e1 : qf_Z (FP.f2d b) = 2 ^ 2098 := by
        unfold qf_Z
        rw [FP.Core.zmag_bits (qf_f2d_N hb), qf_f2d_inf hbi, ← qf_Zinf]
        congr 1
        split <;> rfl
      have e2 : FP.Core.zmag FP.Core.b32 (FP.Core.val32 a) < FP.Core.zmag FP.Core.b32 (FP.Core.val32 b) := by
        rw [FP.Core.zmag_bits32 haN, FP.Core.zmag_bits32 hb, FP.Core.unitsOf_lt_iff]
        omega
      have e3 := qf_R_lt (qf_F_R f1)
      rw [qf_Zf ha] at e3
      rw [e1, Nat.mod_eq_of_lt e3, Nat.mod_eq_of_lt e2]
    · rw [qf_Zf (a := b) (by omega), Nat.mul_mod_mul_right]
section
variable {w : qcW} {I : qTI} {L : qTL} {D : qTD} {R : qTR} {a b : UInt32}
theorem fx_joinedFloats {op : Int32} (ha : qf_N32 a) (hb : qf_N32 b) (h : qf_lost op (FP.f2d a) (FP.f2d b) = false) : fX8_joinedFloats w I L D R op a b = some (FP.f2d (qf_fj op a b), I, L, D, R) := by
  have hN := qf_fj_N ha hb h
  have hN2 := (qf_n64 _).mpr (qf_f2d_N hN)
  have hN1 := (qf_n32 _).mpr hN
  unfold fX8_joinedFloats
  unfold qf_fj at hN1 hN2 ⊢
  by_cases h1 : op = 1
  · simp only [if_pos h1] at hN1 hN2 ⊢
    rw [hN1, hN2]
    rfl
  · simp only [if_neg h1] at hN1 hN2 ⊢
    by_cases h2 : op = 2
    · simp only [if_pos h2] at hN1 hN2 ⊢
      rw [hN1, hN2]
      rfl
    · simp only [if_neg h2] at hN1 hN2 ⊢
      by_cases h3 : op = 3
      · simp only [if_pos h3] at hN1 hN2 ⊢
        rw [hN1, hN2]
        rfl
      · simp only [if_neg h3] at hN1 hN2 ⊢
        by_cases h4 : op = 4
        · simp only [if_pos h4] at hN1 hN2 ⊢
          rw [hN1, hN2]
          rfl
        · simp only [if_neg h4] at hN1 hN2 ⊢
          unfold qf_lost at h
          rw [if_neg h1, if_neg h2, if_neg h3, if_neg h4] at h
          obtain ⟨r1, r2⟩ := qf_rem_ok (qf_f2d_N ha) h
          rw [qf_f2d_E ha, qf_f2d_z hb, Bool.or_eq_false_iff] at h
          have ha2 := (qf_N32_iff a).mp ha
          have hq1 := of_decide_eq_false h.1
          have hq2 := of_decide_eq_false h.2
          rw [(qf_n64 _).mpr (qf_f2d_N ha), (qf_n64 _).mpr (qf_f2d_N hb), qc_gdt, qc_gdt, fx_remainder r1 (qf_f2d_N hb) r2, qf_frem (by omega) hb hq2]
          rfl
theorem fm_joinedFloats {op : Int32} (ha : qf_N32 a) (hb : qf_N32 b) (h : qf_lost op (FP.f2d a) (FP.f2d b) = false) : fX12_reckonedFloat w I L D R op a b = some (FP.f2d (qf_fj op a b), I, L, D, R) := by
  have hN := qf_fj_N ha hb h
  have hN2 := (qf_n64 _).mpr (qf_f2d_N hN)
  have hN1 := (qf_n32 _).mpr hN
  unfold fX12_reckonedFloat
  unfold qf_fj at hN1 hN2 ⊢
  by_cases h1 : op = 1
  · simp only [if_pos h1] at hN1 hN2 ⊢
    rw [hN1, hN2]
    rfl
  · simp only [if_neg h1] at hN1 hN2 ⊢
    by_cases h2 : op = 2
    · simp only [if_pos h2] at hN1 hN2 ⊢
      rw [hN1, hN2]
      rfl
    · simp only [if_neg h2] at hN1 hN2 ⊢
      by_cases h3 : op = 3
      · simp only [if_pos h3] at hN1 hN2 ⊢
        rw [hN1, hN2]
        rfl
      · simp only [if_neg h3] at hN1 hN2 ⊢
        by_cases h4 : op = 4
        · simp only [if_pos h4] at hN1 hN2 ⊢
          rw [hN1, hN2]
          rfl
        · simp only [if_neg h4] at hN1 hN2 ⊢
          rw [hN1, hN2]
          rfl
/-- a double that is a float -/
def qf_isF (x : UInt64) : Prop := ∃ f : UInt32, qc_n32 f = true ∧ x = FP.f2d f
theorem qf_d2f (h : qf_N32 a) : FP.d2f (FP.f2d a) = a := by
  have e : FP.d2f (FP.f2d a) = FP.Core.d2f (FP.f2d a) := FP.d2f_core ((FP.Core.notNaN_iff _).mpr (qf_f2d_N h))
  rw [e, qf_f2d_core h]
  exact FP.Core.d2f_f2d h
theorem qf_d2f_N {x : UInt64} (h : qf_N x) : qf_N32 (FP.d2f x) := by
  have e : FP.d2f x = FP.Core.d2f x := FP.d2f_core ((FP.Core.notNaN_iff _).mpr h)
  rw [e]
  exact (FP.Core.notNaN_iff32 _).mp (FP.Core.d2f_out ((FP.Core.notNaN_iff x).mpr h))
theorem qf_isF_N {x : UInt64} (h : qf_isF x) : qf_N x := by
  obtain ⟨f, h1, rfl⟩ := h
  exact qf_f2d_N ((qf_n32 f).mp h1)
theorem qf_isF_back {x : UInt64} (h : qf_isF x) : FP.f2d (FP.d2f x) = x := by
  obtain ⟨f, h1, rfl⟩ := h
  rw [qf_d2f ((qf_n32 f).mp h1)]
theorem qf_isF_of {x : UInt64} (h : qf_N x) : qf_isF (FP.f2d (FP.d2f x)) := ⟨_, (qf_n32 _).mpr (qf_d2f_N h), rfl⟩
theorem qf_fneg32 {f : UInt32} (h : qf_N32 f) : qf_isF (FP.dneg (FP.f2d f)) := by
  have hf := f.toNat_lt
  have h1 := (qf_N32_iff f).mp h
  by_cases q : 2 ^ 31 ≤ f.toNat
  · have hn : (UInt32.ofNat (f.toNat - 2 ^ 31)).toNat = f.toNat - 2 ^ 31 := UInt32.toNat_ofNat_of_lt' (by show _ < 2 ^ 32; omega)
    have hN2 : qf_N32 (UInt32.ofNat (f.toNat - 2 ^ 31)) := by rw [qf_N32_iff, hn]; omega
    refine ⟨UInt32.ofNat (f.toNat - 2 ^ 31), (qf_n32 _).mpr hN2, qf_eq (qf_neg_N (qf_f2d_N h)) (qf_f2d_N hN2) ?_ ?_⟩
    · rw [qf_neg_S (qf_f2d_N h), qf_SM (qf_f2d_N h), qf_SM (qf_f2d_N hN2), qf_f2d_M h, qf_f2d_M hN2, hn, decide_eq_true q, decide_eq_false (by omega)]
      rfl
    · rw [qf_neg_Z (qf_f2d_N h)]
      by_cases h5 : f.toNat % 2 ^ 31 = 2139095040
      · unfold qf_Z
        rw [FP.Core.zmag_bits (qf_f2d_N h), FP.Core.zmag_bits (qf_f2d_N hN2), qf_f2d_inf h5, qf_f2d_inf (by rw [hn]; omega), hn, if_pos q, if_neg (by omega)]
      · rw [(qf_f2d_fin (a := f) (by omega)).2.2, (qf_f2d_fin (a := UInt32.ofNat (f.toNat - 2 ^ 31)) (by rw [hn]; omega)).2.2, hn, show (f.toNat - 2 ^ 31) % 2 ^ 31 = f.toNat % 2 ^ 31 by omega]
  · have hn : (UInt32.ofNat (f.toNat + 2 ^ 31)).toNat = f.toNat + 2 ^ 31 := UInt32.toNat_ofNat_of_lt' (by show _ < 2 ^ 32; omega)
    have hN2 : qf_N32 (UInt32.ofNat (f.toNat + 2 ^ 31)) := by rw [qf_N32_iff, hn]; omega
    refine ⟨UInt32.ofNat (f.toNat + 2 ^ 31), (qf_n32 _).mpr hN2, qf_eq (qf_neg_N (qf_f2d_N h)) (qf_f2d_N hN2) ?_ ?_⟩
    · rw [qf_neg_S (qf_f2d_N h), qf_SM (qf_f2d_N h), qf_SM (qf_f2d_N hN2), qf_f2d_M h, qf_f2d_M hN2, hn, decide_eq_false q, decide_eq_true (by omega)]
      rfl
    · rw [qf_neg_Z (qf_f2d_N h)]
      by_cases h5 : f.toNat % 2 ^ 31 = 2139095040
      · unfold qf_Z
        rw [FP.Core.zmag_bits (qf_f2d_N h), FP.Core.zmag_bits (qf_f2d_N hN2), qf_f2d_inf h5, qf_f2d_inf (by rw [hn]; omega), hn, if_neg q, if_pos (by omega)]
      · rw [(qf_f2d_fin (a := f) (by omega)).2.2, (qf_f2d_fin (a := UInt32.ofNat (f.toNat + 2 ^ 31)) (by rw [hn]; omega)).2.2, hn, show (f.toNat + 2 ^ 31) % 2 ^ 31 = f.toNat % 2 ^ 31 by omega]
theorem qf_isF_neg {x : UInt64} (h : qf_isF x) : qf_isF (FP.dneg x) := by
  obtain ⟨f, h1, rfl⟩ := h
  exact qf_fneg32 ((qf_n32 f).mp h1)
end
