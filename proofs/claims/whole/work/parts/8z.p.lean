/-! the end, when an object failed -/
section
variable {w : qcW} {L0 : Nat → Int64} {D0 : Nat → UInt64} {L1 : Nat → Int64} {D1 : Nat → UInt64} {rc x2 : Int32} {m q t : Nat} {C S : qcM} {k139 : qTI × qTL × qTD × qTR × Int32 × Int32 → qcO Int32}
theorem qx_endX (hW : qx_W L0 D0 L1 D1 rc m C S) (h7 : C.1 257 7 = rc) (hrc : rc = -1 ∨ ∃ i, i < 10 ∧ rc = nI i) (hk : ∀ i t : Nat, rc = nI i → i < 10 → t < 16 → C.2.1 263 t = L0 (i * 16 + t) ∧ C.2.2.1 264 t = D0 (i * 16 + t)) (h4 : C.1 286 4 = nI t) (h71 : S.1 291 71 = nI t) :
    ∃ (L' : qTL) (D' : qTD), (qc_bd (fX1_giveBack w C.1 C.2.1 C.2.2.1 C.2.2.2) fun r6 I6 L6 D6 R6 => some (((-10 : Int32) - (I6 286 4)), I6, L6, D6, R6)) = some ((-10 : Int32) - nI t, C.1, L', D', C.2.2.2) ∧ L' 261 = L0 ∧ D' 262 = D0 ∧ (∀ a, a ≠ 261 → L' a = C.2.1 a) ∧ (∀ a, a ≠ 262 → D' a = C.2.2.1 a) ∧
      fX12_run_b230 w k139 S.1 S.2.1 S.2.2.1 S.2.2.2 (nI q) x2 0 = some ((-10 : Int32) - nI t, qc_u (qc_u S.1 291 78 (S.1 291 69)) 291 81 0, qi_rr S.2.1 295 L1, qi_rr S.2.2.1 296 D1, S.2.2.2) := by
  obtain ⟨W1, W2, W3, W4, W5, W6, W7⟩ := hW
  obtain ⟨L', D', e1, e2, e3, e4, e5⟩ := cx_giveBack (w := w) (R := C.2.2.2) h7 hrc hk W7
  refine ⟨L', D', ?_, e2, e3, e4, e5, ?_⟩
  · rw [e1, qc_bds, h4]
  · unfold fX12_run_b230
    rw [if_pos rfl, mx_takesBack W2 W3 W4, qc_bds, W5, W6, qc_u_ne _ _ (Or.inr (show 71 ≠ 81 by decide)), qc_u_ne _ _ (Or.inr (show 71 ≠ 78 by decide)), h71]
end
