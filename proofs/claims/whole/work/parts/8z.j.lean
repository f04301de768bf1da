/-! the end, when all went well -/
section
variable {w : qcW} {q ob h : Nat} {C S : qcM} {k139 : qTI × qTL × qTD × qTR × Int32 × Int32 → qcO Int32}
theorem cx_first {I : qTI} {L : qTL} {D : qTD} {R : qTR} {lim : Int32} (h5 : I 280 5 = nI h) (hh : h ≤ 16) (hl : 0 ≤ lim.toInt) : ∃ h', h' ≤ h ∧ (if lim < nI h then lim else nI h) = nI h' ∧ fX3_keepFirst w I L D R lim = some ((), qc_u I 280 5 (nI h'), L, D, R) := by
  have e : fX3_keepFirst w I L D R lim = some ((), qc_u I 280 5 (if lim < nI h then lim else nI h), L, D, R) := by
    unfold fX3_keepFirst fJ9_min_7cf53
    rw [h5]
    split <;> rfl
  by_cases z : lim < nI h
  · have z2 := Int32.lt_iff_toInt_lt.mp z
    rw [nI_toInt (by omega)] at z2
    have z3 : lim = nI lim.toInt.toNat := Int32.toInt_inj.mp (by rw [nI_toInt (by omega)]; omega)
    rw [if_pos z] at e ⊢
    exact ⟨lim.toInt.toNat, by omega, z3, by rw [e, ← z3]⟩
  · rw [if_neg z] at e ⊢
    exact ⟨h, Nat.le_refl _, rfl, e⟩
theorem qx_16 (hh : h ≤ 16) : (if (16 : Int32) < nI h then (16 : Int32) else nI h) = nI h := by
  rw [if_neg (fun z => by have := (qi_lt (a := 16) (by decide) (by omega)).mp z; omega)]
/-- a fold, or cells set -/
theorem qx_end1 {x2 : Int32} (hx2 : x2 ≠ 0) (h5 : C.1 280 5 = nI h) (h81 : S.1 291 81 = nI h) (hh : h ≤ 16) (hob : S.1 291 0 ≤ S.1 291 71) (hio : qc_io w (C.2.2.2 286 3) 6 = true) (h9 : C.1 (C.2.2.2 286 3) 9 = 16) :
    (qc_gd (qc_io w (C.2.2.2 286 3) 6) <| qc_bd (fX3_keepFirst w C.1 C.2.1 C.2.2.1 C.2.2.2 (C.1 (C.2.2.2 286 3) 9)) fun r3 I3 L3 D3 R3 => some ((I3 280 5), I3, L3, D3, R3)) = some (nI h, C) ∧
    fX12_run_b139 w k139 S.1 S.2.1 S.2.2.1 S.2.2.2 (nI q) x2 = some (nI h, qc_u S.1 291 78 0, S.2.1, S.2.2.1, S.2.2.2) := by
  obtain ⟨h', e1, e2, e3⟩ := cx_first (w := w) (L := C.2.1) (D := C.2.2.1) (R := C.2.2.2) (lim := 16) h5 hh (by decide)
  rw [qx_16 hh] at e2
  rw [← e2, qx_self h5] at e3
  constructor
  · rw [hio, qc_gdt, h9, e3, qc_bds, h5]
  · unfold fX12_run_b139
    rw [if_pos hob, if_neg hx2, qc_u_ne _ _ (Or.inr (by decide)), h81]
/-- a find -/
theorem qx_end0 {x lim : Int32} (hq : q < 12) (hH : qx_Hh x ob h C S) (hob16 : ob ≤ 16) (hob : S.1 291 0 ≤ S.1 291 71) (h72 : S.1 291 72 = nI q) (hio : qc_io w (C.2.2.2 286 3) 6 = true) (h9 : C.1 (C.2.2.2 286 3) 9 = lim) (hlim : S.1 320 q = -1 ∧ lim = 16 ∨ lim = S.1 320 q ∧ 0 ≤ S.1 320 q) (hx : x = 0 ∧ S.1 319 q = -1 ∨ x = 1 ∧ S.1 319 q = 0 ∨ x = -1 ∧ S.1 319 q = 1) :
    ∃ (h' : Nat) (f : Nat → Int32) (d : Nat → UInt64), h' ≤ 16 ∧ (qc_gd (qc_io w (C.2.2.2 286 3) 6) <| qc_bd (fX3_keepFirst w C.1 C.2.1 C.2.2.1 C.2.2.2 (C.1 (C.2.2.2 286 3) 9)) fun r3 I3 L3 D3 R3 => some ((I3 280 5), I3, L3, D3, R3)) = some (nI h', qc_u C.1 280 5 (nI h'), C.2.1, C.2.2.1, C.2.2.2) ∧
      fX12_run_b139 w k139 S.1 S.2.1 S.2.2.1 S.2.2.2 (nI q) 0 = some (nI h', qc_u (qi_rr (qc_u S.1 291 78 0) 333 f) 291 81 (nI h'), S.2.1, qi_rr S.2.2.1 334 d, S.2.2.2) ∧ ∀ k, k < h' → C.1 281 k = f k ∧ qc_inb (f k) 17 = true ∧ C.2.2.1 282 k = d k ∧ qf_N (d k) := by
  obtain ⟨a1, a2, a3, a4, a5⟩ := hH
  have hh : h ≤ 16 := by omega
  have hl0 : 0 ≤ lim.toInt := by
    rcases hlim with ⟨_, z⟩ | ⟨z, z2⟩
    · rw [z]; decide
    · rw [z]; exact Int32.le_iff_toInt_le.mp z2
  obtain ⟨h', e1, e2, e3⟩ := cx_first (w := w) (L := C.2.1) (D := C.2.2.1) (R := C.2.2.2) (lim := lim) a1 hh hl0
  have hP := qy_all_P (qy_st x) (fun a v => qc_inb a 17 = true ∧ qf_N v) (S.1 333) (S.2.2.1 334) h a5
  have eS : ∀ I : qTI, I 291 81 = nI h → I 320 = S.1 320 → ∀ (L : qTL) (D : qTD) (R : qTR), fX12_run_b296 w I L D R (nI q) = some (nI h', qc_u I 291 81 (nI h'), L, D, R) := by
    intro I i1 i2 L D R
    unfold fX12_run_b296 fX12_run_b329
    rw [qi_inbN hq (by decide), qc_gdt, qc_gdt, qc_gdt, nI_clamp (by omega), i2, i1, ← e2]
    rcases hlim with ⟨z1, z2⟩ | ⟨z1, z2⟩
    · rw [if_pos z1, z2, qx_16 hh, qc_u_at]
    · rw [← z1] at z2 ⊢
      have hm : ¬ lim = -1 := fun z => by rw [z] at z2; exact absurd z2 (by decide)
      rw [if_neg hm]
      by_cases z : lim < nI h
      · rw [if_neg (fun y => absurd z (Int32.not_lt.mpr y)), if_pos z, qc_u_at]
      · rw [if_pos (Int32.not_lt.mp z), if_neg z, qc_u_at]
  refine ⟨h', (qy_all (qy_st x) h (S.1 333) (S.2.2.1 334)).1, (qy_all (qy_st x) h (S.1 333) (S.2.2.1 334)).2, by omega, ?_, ?_, fun k hk => ?_⟩
  · rw [hio, qc_gdt, h9, e3, qc_bds, qc_u_at]
  · unfold fX12_run_b139
    have u1 : ∀ a k, a ≠ 291 → qc_u S.1 291 78 0 a k = S.1 a k := fun a k h => qc_u_ne _ _ (Or.inl h)
    have u2 : ∀ a, a ≠ 291 → qc_u S.1 291 78 0 a = S.1 a := fun a h => qc_u_off _ _ h
    have u3 : ∀ k, k ≠ 78 → qc_u S.1 291 78 0 291 k = S.1 291 k := fun k h => qc_u_ne _ _ (Or.inr h)
    rw [if_pos hob, if_pos rfl, qi_inbN hq (by decide), qc_gdt, nI_clamp (by omega), u1 319 q (by decide)]
    rcases hx with ⟨z1, z2⟩ | hx
    · subst z1
      rw [if_pos z2, eS _ ((u3 81 (by decide)).trans a2) (u2 320 (by decide))]
      have hid : qy_all (qy_st 0) h (S.1 333) (S.2.2.1 334) = (S.1 333, S.2.2.1 334) := qy_all_id _ _ h
      rw [hid]
      dsimp only
      rw [show S.1 333 = qc_u S.1 291 78 0 333 from (u2 333 (by decide)).symm, qi_rr_0, qi_rr_0]
    · have hne : ¬ S.1 319 q = -1 := by rcases hx with ⟨_, z⟩ | ⟨_, z⟩ <;> (rw [z]; decide)
      rw [if_neg hne, mx_sorts (x := x) (h := h) hq hh ((u3 72 (by decide)).trans h72) (by rw [u1 319 q (by decide)]; exact hx) ((u3 81 (by decide)).trans a2) (fun k hk => (a5 k hk).2), qc_bds, u2 333 (by decide)]
      rw [eS _ ((congrFun (qi_rr_off _ _ (show 291 ≠ 333 by decide)) 81).trans ((u3 81 (by decide)).trans a2)) ((qi_rr_off _ _ (show 320 ≠ 333 by decide)).trans (u2 320 (by decide)))]
  · obtain ⟨b1, b2⟩ := a4 k (by omega)
    exact ⟨b1, (hP k (by omega)).1, b2, (hP k (by omega)).2⟩
end
