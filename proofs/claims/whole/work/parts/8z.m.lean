/-! a query of both, as a run reads it -/
section
variable {w : qcW} {I : qTI} {D : qTD} {R : qTR} {q : Nat}
/-- the rest that is known of a query -/
def qx_B (nr n0 n1 n2 : Nat) (I : qTI) (R : qTR) (q : Nat) : Prop :=
  ((n0 = 0 ∨ qw_wf nr n0 (fun i => I 315 (600 * q + i)) (fun i => I 316 (600 * q + i)) [0]) ∧ qw_ns n0 (fun i => I 315 (600 * q + i)) ∧
   (n2 = 0 ∨ qw_wf nr n2 (fun i => I 315 (600 * q + 400 + i)) (fun i => I 316 (600 * q + 400 + i)) [1] ∨ qw_wf nr n2 (fun i => I 315 (600 * q + 400 + i)) (fun i => I 316 (600 * q + 400 + i)) [2]) ∧ qw_ns n2 (fun i => I 315 (600 * q + 400 + i))) ∧
  ((I 318 q = 0 ∧ R (R 290 q) 4 = 5 ∧ n2 = 0 ∧ qw_ns n1 (fun i => I 315 (600 * q + 200 + i)) ∧
     ((n1 = 0 ∧ I (R 290 q) 6 = 2 ∧ I 319 q = -1 ∧ I (R 290 q) 8 = 0) ∨ (qw_wf nr n1 (fun i => I 315 (600 * q + 200 + i)) (fun i => I 316 (600 * q + 200 + i)) [4] ∧ 0 < n1 ∧ I (R 290 q) 6 = 4 ∧ ((I 319 q = 0 ∧ I (R 290 q) 8 = 1) ∨ (I 319 q = 1 ∧ I (R 290 q) 8 = -1)))) ∧
     ((I 320 q = -1 ∧ I (R 290 q) 9 = 16) ∨ (I (R 290 q) 9 = I 320 q ∧ 0 ≤ I 320 q))) ∨
   (I 318 q = 1 ∧ R (R 290 q) 4 = 9 ∧ I (R 290 q) 9 = 16 ∧ qw_ns n1 (fun i => I 315 (600 * q + 200 + i)) ∧ I (R 290 q) 6 = I 322 q ∧ qq_how (R (R 290 q) 5) (I 321 q) ∧
     ∃ k : Nat, I 322 q = nI k ∧ 1 ≤ k ∧ k ≤ 4 ∧ (I 321 q = 0 → k = 2) ∧ (I 321 q = 1 → k = 2 ∨ k = 4) ∧ (I 321 q = 4 → k = 4) ∧ ((I 321 q = 0 ∧ n1 = 0) ∨ (I 321 q ≠ 0 ∧ 0 < n1 ∧ qw_wf nr n1 (fun i => I 315 (600 * q + 200 + i)) (fun i => I 316 (600 * q + 200 + i)) [k]))) ∨
   (I 318 q = 2 ∧ R (R 290 q) 4 = 15 ∧ n2 = 0 ∧ I (R 290 q) 9 = 16 ∧ I (R 290 q) 6 = 2 ∧ I (R 290 q) 8 = 0 ∧ 0 < n1 ∧
     qw_wf nr n1 (fun i => I 315 (600 * q + 200 + i)) (fun i => I 316 (600 * q + 200 + i)) [] ∧ qw_ns (n1 - 1) (fun i => I 315 (600 * q + 200 + i)) ∧ qc_inb (I (R 290 q) 7) 10 = true ∧ ∃ l, l < 8 ∧ I 315 (600 * q + 200 + (n1 - 1)) = nI (20 + l) ∧ I 316 (600 * q + 200 + (n1 - 1)) = I (R 290 q) 7))
theorem qx_cds (hB : qq_B w I D R q) : ∃ n0 n1 n2 nr b2 : Nat, (n0 ≤ 200 ∧ n1 ≤ 200 ∧ n2 ≤ 200 ∧ nr ≤ 100) ∧ 338 ≤ R 290 q ∧ (qc_io w (R 290 q) 6 = true ∧ qc_ia w (R (R 290 q) 2) 100 = true ∧ w.2.2 (R (R 290 q) 2) = 4 ∧ 338 ≤ R (R 290 q) 2 ∧ I (R (R 290 q) 2) 2 = nI b2 ∧ I (R (R 290 q) 2) 3 = nI (b2 + n2) ∧ qc_l62 (R (R 290 q) 5) = true) ∧ I 317 (3 * q + 2) = nI n2 ∧
    (∀ C1 S1 : qcM, C1.2.2.2 286 3 = R 290 q → (∀ a, 338 ≤ a → C1.2.2.2 a = R a ∧ C1.1 a = I a ∧ C1.2.2.1 a = D a) → (∀ a, 315 ≤ a → a ≤ 317 → S1.1 a = I a) →
      qx_cd w 0 q n0 (fun i => I 315 (600 * q + i)) (fun i => I 316 (600 * q + i)) C1 S1 ∧ qx_cd w 1 q n1 (fun i => I 315 (600 * q + 200 + i)) (fun i => I 316 (600 * q + 200 + i)) C1 S1 ∧ qx_cd w 2 q n2 (fun i => I 315 (600 * q + 400 + i)) (fun i => I 316 (600 * q + 400 + i)) C1 S1) ∧
    (∀ C1 S1 : qcM, q < 12 → C1.2.2.2 286 3 = R 290 q → (∀ a, 338 ≤ a → C1.2.2.2 a = R a ∧ C1.1 a = I a ∧ C1.2.2.1 a = D a) → S1.1 291 72 = nI q → S1.2.2.1 305 = D 305 → C1.1 286 4 = S1.1 291 71 → qx_re w nr q C1 S1) ∧ qx_B nr n0 n1 n2 I R q := by
  obtain ⟨n0, n1, n2, nr, ⟨a1, a2, a3, a4, a5, a6, a7, a8, a9, a10, a11, a12, a13, a14, a15⟩, ⟨b1, b2, b3, b4, b5, b6, b7, b8, b9, b10, b11⟩, ⟨c1, c2, c3, c4⟩, d, e⟩ := hB
  refine ⟨n0, n1, n2, nr, n0 + n1, ⟨b1, b2, b3, b4⟩, a2, ⟨a1, a9, a11, a10, b7, b8, a15⟩, b11, fun C1 S1 h1 h2 h3 => ?_, fun C1 S1 hq h1 h2 h3 h4 h5 => ?_, d, e⟩
  · have r0 : ∀ k, C1.2.2.2 (R 290 q) k = R (R 290 q) k := fun k => congrFun (h2 _ a2).1 k
    have i0 : C1.1 (R (R 290 q) 0) = I (R (R 290 q) 0) := (h2 _ a4).2.1
    have i1 : C1.1 (R (R 290 q) 1) = I (R (R 290 q) 1) := (h2 _ a7).2.1
    have i2 : C1.1 (R (R 290 q) 2) = I (R (R 290 q) 2) := (h2 _ a10).2.1
    have s5 := h3 315 (by decide) (by decide)
    have s6 := h3 316 (by decide) (by decide)
    have s7 := h3 317 (by decide) (by decide)
    unfold qx_cd
    rw [h1, r0, r0, r0, i0, i1, i2, s5, s6, s7]
    refine ⟨⟨⟨a1, a3, a4, a6, a7, a9, a10, a11⟩, 0, by omega, by omega, by omega, by omega, by omega, b5, ?_, fun i hi => ?_, b9⟩, ⟨⟨a1, a3, a4, a6, a7, a9, a10, a11⟩, n0, by omega, by omega, by omega, by omega, by omega, b6, b7, fun i hi => ?_, b10⟩, ⟨⟨a1, a3, a4, a6, a7, a9, a10, a11⟩, n0 + n1, by omega, by omega, by omega, by omega, by omega, b7, b8, fun i hi => ?_, b11⟩⟩
    · rw [Nat.zero_add n0]
      exact b6
    · rw [Nat.zero_add]
      exact ⟨(c1 i hi).1, (c1 i hi).2, rfl, rfl⟩
    · exact ⟨(c2 i hi).1, (c2 i hi).2, rfl, rfl⟩
    · exact ⟨(c3 i hi).1, (c3 i hi).2, rfl, rfl⟩
  · have r0 : ∀ k, C1.2.2.2 (R 290 q) k = R (R 290 q) k := fun k => congrFun (h2 _ a2).1 k
    unfold qx_re
    rw [h1, r0, (h2 _ a13).2.2, h4]
    exact ⟨a1, a12, a13, a14, b4, hq, h3, c4, h5⟩
end
