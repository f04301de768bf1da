/-! clear, acts, act -/
theorem qi_12 {i : Nat} (h : i < 2 ^ 31) : (12 : Int32) ≤ nI i ↔ 12 ≤ i := qi_le (a := 12) (by decide) h
section
variable {w : qcW} {I : qTI} {L : qTL} {D : qTD} {R : qTR}
theorem fx_clear {x1 : Int32} : ∀ (n t : Nat), 12 < n + t → t ≤ 12 → fX11_clear_l7 w n (I, L, D, qi_rr R 290 (qi_ft (R 290) 0 t 255), x1, nI t) = some (x1, qc_u (qc_u (qc_u (qc_u (qc_u (qc_u (qc_u (qc_u I 256 6 0) 280 0 (-1)) 280 1 0) 280 2 (-1)) 280 3 (-1)) 280 4 0) 280 5 0) 280 6 0, L, D, qi_rr R 290 (qi_ft (R 290) 0 12 255)) := by
  intro n
  induction n with
  | zero => intro t h h2; omega
  | succ n ih =>
    intro t hn ht
    rw [fX11_clear_l7_s]
    unfold fX11_clear_b7
    by_cases h : 12 ≤ t
    · have : t = 12 := by omega
      subst this
      rw [if_pos (by decide)]
      rfl
    · rw [if_neg (fun q => h ((qi_12 (by omega)).mp q)), qi_inbN (show t < 12 by omega) (by decide), qc_gdt, nI_clamp (by omega), qi_rr_u, qi_s1]
      have := qi_ft_s (R 290) 0 t 255
      rw [Nat.zero_add] at this
      rw [this]
      exact ih (t + 1) (by omega) (by omega)
theorem qi_F20 : 12 < qcF + 0 := by unfold qcF; omega
theorem pp_clear (h : Inv w (I, L, D, R)) : qv_pp w (fun I L D R => fX11_clear w I L D R) (fun I L D R => fX12_clear w I L D R) (I, L, D, R) := by
  have e1 := fx_clear (w := w) (I := I) (L := L) (D := D) (R := R) (x1 := I 256 6) qcF 0 qi_F20 (by omega)
  rw [qi_ft_0, qi_rr_0] at e1
  have e1' : fX11_clear w I L D R = _ := e1
  obtain ⟨a1, a2, ⟨a3, a3'⟩, a4, a5, a6, a7, ⟨a8, n, a9, a10, a11⟩, a12⟩ := h
  refine ⟨_, _, _, _, _, _, _, _, _, e1', by simp only [fX12_clear]; rw [show I 256 6 = I 291 40 from a8]; rfl, fun hR => ?_⟩
  refine ⟨a1, hR, ?_, ?_, ?_, ?_, a7, ⟨?_, 0, ?_, by decide, fun q hq => by omega⟩, ?_⟩
  · simp [qc_u]
    exact ⟨a3, a3'⟩
  · simp only [qc_u_off _ _ (show 258 ≠ 291 by decide), qc_u_off _ _ (show 258 ≠ 280 by decide), qc_u_off _ _ (show 258 ≠ 256 by decide), qc_u_off _ _ (show 259 ≠ 291 by decide), qc_u_off _ _ (show 259 ≠ 280 by decide), qc_u_off _ _ (show 259 ≠ 256 by decide), qc_u_off _ _ (show 260 ≠ 291 by decide), qc_u_off _ _ (show 260 ≠ 280 by decide), qc_u_off _ _ (show 260 ≠ 256 by decide), qc_u_off _ _ (show 292 ≠ 291 by decide), qc_u_off _ _ (show 292 ≠ 280 by decide), qc_u_off _ _ (show 292 ≠ 256 by decide), qc_u_off _ _ (show 293 ≠ 291 by decide), qc_u_off _ _ (show 293 ≠ 280 by decide), qc_u_off _ _ (show 293 ≠ 256 by decide), qc_u_off _ _ (show 294 ≠ 291 by decide), qc_u_off _ _ (show 294 ≠ 280 by decide), qc_u_off _ _ (show 294 ≠ 256 by decide), qc_u_off _ _ (show 261 ≠ 291 by decide), qc_u_off _ _ (show 295 ≠ 291 by decide)]
    exact a4
  · unfold qi_tape at a5 ⊢
    simp [qc_u]
    exact a5
  · simp [qc_u]
    exact a6
  · simp [qc_u]
  · simp [qc_u]
    decide
  · unfold qi_lat
    refine ⟨by simp [qc_u], by simp [qc_u], by simp [qc_u], by simp [qc_u], by simp [qc_u], by simp [qc_u], by simp [qc_u], 0, by simp [qc_u]; decide, by decide, fun k hk => by omega, Or.inl ⟨by simp [qc_u], fun k hk => by omega⟩⟩
theorem qv_i (f : qTI) {a : Nat} (h : qv_vis a = true) (k : Nat) : qv 0 f a k = f a k := if_pos h
theorem qv_v338 {a : Nat} (h : 338 ≤ a) : qv_vis a = true := by
  unfold qv_vis
  rw [Nat.ble_eq.mpr h]
  rfl
/-- a query of both, with its parts named -/
theorem qq_get (h : Inv w (I, L, D, R)) {q : Nat} {n : Nat} (hn : I 256 6 = nI n) (hn12 : n ≤ 12) (hq : q < n) : qq_B w (qv 0 I) (qv 0 D) (qv 0 R) q := by
  obtain ⟨-, n', b1, b2, b3⟩ := h.2.2.2.2.2.2.2.1
  have : n' = n := qi_nI_inj (by omega) (by omega) (b1.symm.trans hn)
  subst this
  exact b3 q hq
theorem qq_of {q : Nat} (h : qq_B w (qv 0 I) (qv 0 D) (qv 0 R) q) : qq_B w I D R q := by
  have e1 : ∀ k, qv 0 R 290 k = R 290 k := fun k => if_pos rfl
  have e2 : ∀ a, 338 ≤ a → ∀ k, qv 0 R a k = R a k := fun a ha k => if_pos (qv_v338 ha)
  have e3 : ∀ a, 338 ≤ a → ∀ k, qv 0 I a k = I a k := fun a ha k => if_pos (qv_v338 ha)
  have e4 : ∀ a, 338 ≤ a → ∀ k, qv 0 D a k = D a k := fun a ha k => if_pos (qv_v338 ha)
  have f1 : ∀ k, qv 0 I 315 k = I 315 k := fun k => if_pos rfl
  have f2 : ∀ k, qv 0 I 316 k = I 316 k := fun k => if_pos rfl
  have f3 : ∀ k, qv 0 I 317 k = I 317 k := fun k => if_pos rfl
  have f4 : ∀ k, qv 0 I 318 k = I 318 k := fun k => if_pos rfl
  have f5 : ∀ k, qv 0 I 319 k = I 319 k := fun k => if_pos rfl
  have f6 : ∀ k, qv 0 I 320 k = I 320 k := fun k => if_pos rfl
  have f7 : ∀ k, qv 0 I 321 k = I 321 k := fun k => if_pos rfl
  have f8 : ∀ k, qv 0 I 322 k = I 322 k := fun k => if_pos rfl
  have f9 : ∀ k, qv 0 D 305 k = D 305 k := fun k => if_pos rfl
  unfold qq_B at h ⊢
  simp only [e1, f1, f2, f3, f4, f5, f6, f7, f8, f9] at h
  obtain ⟨n0, n1, n2, nr, g1, g2, g3, g4, g5⟩ := h
  have ha := g1.2.1
  simp only [e2 _ ha, e3 _ ha] at g1 g2 g3 g5
  obtain ⟨b1, b2, b3, b4, b5, b6, b7, b8, b9, b10, b11, b12, b13, b14, b15⟩ := g1
  simp only [e3 _ b4, e3 _ b7, e3 _ b10, e4 _ b13] at g2 g3
  exact ⟨n0, n1, n2, nr, ⟨b1, b2, b3, b4, b5, b6, b7, b8, b9, b10, b11, b12, b13, b14, b15⟩, g2, g3, g4, g5⟩
def qq_m (n0 n1 n2 p : Nat) : Nat := if p = 0 then n0 else if p = 1 then n1 else n2
theorem qq_m0 (n0 n1 n2 : Nat) : qq_m n0 n1 n2 0 = n0 := rfl
theorem qq_m1 (n0 n1 n2 : Nat) : qq_m n0 n1 n2 1 = n1 := rfl
theorem qq_m2 (n0 n1 n2 : Nat) : qq_m n0 n1 n2 2 = n2 := rfl
/-- the sizes of its parts, and its acts -/
theorem qq_sizes {q : Nat} (hB : qq_B w I D R q) : ∃ m : Nat → Nat, 338 ≤ R 290 q ∧ qc_io w (R 290 q) 6 = true ∧
    (∀ p, p < 3 → m p ≤ 200 ∧ (∀ L, fX7_size w I L D R (R 290 q) (nI p) = some (nI (m p), I, L, D, R)) ∧ I 317 (3 * q + p) = nI (m p) ∧ ∀ i, i < m p →
      (∀ L, fX7_op w I L D R (R 290 q) (nI p) (nI i) = some (I 315 (600 * q + 200 * p + i), I, L, D, R) ∧ fX7_number w I L D R (R 290 q) (nI p) (nI i) = some (I 316 (600 * q + 200 * p + i), I, L, D, R))) := by
  obtain ⟨n0, n1, n2, nr, ⟨b1, b2, b3, b4, b5, b6, b7, b8, b9, b10, b11, b12, b13, b14, -⟩, ⟨c1, c2, c3, c4, c5, c6, c7, c8, c9, c10, c11⟩, ⟨d1, d2, d3, -⟩, -⟩ := hB
  refine ⟨qq_m n0 n1 n2, b2, b1, fun p hp => ?_⟩
  have st : ∃ a b, I (R (R 290 q) 2) p = nI a ∧ I (R (R 290 q) 2) (p + 1) = nI b ∧ b = a + (qq_m n0 n1 n2 p) ∧ b ≤ n0 + n1 + n2 ∧ I 317 (3 * q + p) = nI (qq_m n0 n1 n2 p) ∧ (qq_m n0 n1 n2 p) ≤ 200 ∧ ∀ i, i < (qq_m n0 n1 n2 p) → I (R (R 290 q) 0) (a + i) = I 315 (600 * q + 200 * p + i) ∧ I (R (R 290 q) 1) (a + i) = I 316 (600 * q + 200 * p + i) := by
    rcases (show p = 0 ∨ p = 1 ∨ p = 2 by omega) with rfl | rfl | rfl
    · exact ⟨0, n0, c5, c6, by rw [qq_m0]; omega, by omega, by rw [qq_m0]; exact c9, by rw [qq_m0]; exact c1, fun i hi => by rw [Nat.zero_add, Nat.mul_zero, Nat.add_zero]; exact d1 i (by rw [qq_m0] at hi; exact hi)⟩
    · exact ⟨n0, n0 + n1, c6, c7, by rw [qq_m1], by omega, by rw [qq_m1]; exact c10, by rw [qq_m1]; exact c2, fun i hi => d2 i (by rw [qq_m1] at hi; exact hi)⟩
    · exact ⟨n0 + n1, n0 + n1 + n2, c7, c8, by rw [qq_m2], by omega, by rw [qq_m2]; exact c11, by rw [qq_m2]; exact c3, fun i hi => d3 i (by rw [qq_m2] at hi; exact hi)⟩
  obtain ⟨a, b, s1, s2, s3, s4, s5, s6, s7⟩ := st
  generalize qq_m n0 n1 n2 p = m at s3 s5 s6 s7 ⊢
  refine ⟨s6, fun L => ?_, s5, fun i hi L => ?_⟩
  · unfold fX7_size
    rw [b1, b9, b11, qi_s1, qi_inbN (show p + 1 < 4 by omega) (by decide), qi_inbN (show p < 4 by omega) (by decide), qc_gdt, qc_gdt, qc_gdt, qc_gdt, qc_gdt, nI_clamp (by omega), nI_clamp (by omega), s1, s2, qi_sub (by omega), s3, Nat.add_sub_cancel_left]
  · obtain ⟨t1, t2⟩ := s7 i hi
    constructor
    · unfold fX7_op
      rw [b1, b3, b9, b11, b5, qi_inbN (show p < 4 by omega) (by decide), qc_gdt, qc_gdt, qc_gdt, qc_gdt, nI_clamp (by omega), s1, nI_add, qi_inbN (show a + i < n0 + n1 + n2 by omega) (by omega), qc_gdt, nI_clamp (by omega), t1]
    · unfold fX7_number
      rw [b1, b6, b9, b11, b8, qi_inbN (show p < 4 by omega) (by decide), qc_gdt, qc_gdt, qc_gdt, qc_gdt, nI_clamp (by omega), s1, nI_add, qi_inbN (show a + i < n0 + n1 + n2 by omega) (by omega), qc_gdt, nI_clamp (by omega), t2]
/-- both find the same query, or none -/
theorem qq_find (h : Inv w (I, L, D, R)) (x : Int32) : ∃ n, n ≤ 12 ∧ I 256 6 = nI n ∧ I 291 40 = nI n ∧ fX12_isQuery w I L D R x = some (qc_inb x n, I, L, D, R) ∧ (qc_inb x n = false → fX11_queryAt w I L D R x = some (255, I, L, D, R)) ∧ ∀ q, x = nI q → q < n → fX11_queryAt w I L D R x = some (R 290 q, I, L, D, R) ∧ qq_B w I D R q := by
  obtain ⟨b0, n, b1, b2, b3⟩ := h.2.2.2.2.2.2.2.1
  have b1' : I 256 6 = nI n := b1
  have b0' : I 291 40 = nI n := b0.symm.trans b1
  refine ⟨n, b2, b1', b0', ?_, fun hb => ?_, fun q hx hq => ?_⟩
  · unfold fX12_isQuery
    rw [fm_in n (qi_m1 b0' (by omega))]
    rfl
  · unfold fX11_queryAt
    simp only [b1', Int32.lt_iff_toInt_lt, Int32.le_iff_toInt_le, show (0 : Int32).toInt = 0 from rfl, nI_toInt (show n < 2 ^ 31 by omega)]
    by_cases h1 : x.toInt < 0
    · rw [if_pos h1]
    · rw [if_neg h1]
      by_cases h2 : (n : Int) ≤ x.toInt
      · rw [if_pos h2]
      · rw [(qi_inb_iff x n).mpr (by omega)] at hb
        cases hb
  · have hB := qq_of (b3 q hq)
    obtain ⟨m, m1, m2, -⟩ := qq_sizes hB
    refine ⟨?_, hB⟩
    unfold fX11_queryAt
    subst hx
    rw [b1', if_neg (nI_pos (by omega)), if_neg (fun z => by have := (qi_le (by omega) (by omega)).mp z; omega), qi_inbN (show q < 12 by omega) (by decide), nI_clamp (by omega), m2]
    rfl
theorem qq_255 {a : Nat} (h : 338 ≤ a) : Nat.beq a 255 = false := by
  cases e : Nat.beq a 255
  · rfl
  · exact absurd (Nat.eq_of_beq_eq_true e) (by omega)
theorem pp_acts (h : Inv w (I, L, D, R)) (x y : Int32) : qv_pp w (fun I L D R => fX11_acts w I L D R x y) (fun I L D R => fX12_acts w I L D R x y) (I, L, D, R) := by
  obtain ⟨n, hn, -, -, e1, e2, e3⟩ := qq_find h x
  cases hb : qc_inb x n
  · refine qv_same h (-1) ?_ (by simp only [fX12_acts, e1, hb, qc_bds, qf_ff])
    simp only [fX11_acts, e2 hb, qc_bds]
    rfl
  · obtain ⟨q, hq, hx, hx2⟩ := qi_k hb (by omega)
    obtain ⟨f1, hB⟩ := e3 q hx hq
    obtain ⟨m, m1, m2, m3⟩ := qq_sizes hB
    have ey : fX12_in w I L D R (Int32.toInt64 y) 0 2 = some (qc_inb y 3, I, L, D, R) := fm_in 3 (by decide)
    have hxx : fX11_acts w I L D R x y = if qc_inb y 3 = true then (qc_bd (fX7_size w I L D R (R 290 q) y) fun r6 I6 L6 D6 R6 => some (r6, I6, L6, D6, R6)) else some (-1, I, L, D, R) := by
      simp only [fX11_acts, f1, qc_bds, qq_255 m1, Bool.false_eq_true, if_false, m2, qc_gdt, Int32.lt_iff_toInt_lt, show (0 : Int32).toInt = 0 from rfl, show (3 : Int32).toInt = 3 from rfl]
      by_cases h1 : y.toInt < 0
      · rw [if_pos h1, qi_inbF (by omega), qf_ff]
      · rw [if_neg h1]
        by_cases h2 : y.toInt < 3
        · rw [if_pos h2, (qi_inb_iff y 3).mpr (by omega), if_pos rfl]
        · rw [if_neg h2, qi_inbF (by omega), qf_ff]
    cases hy : qc_inb y 3
    · rw [hy, qf_ff] at hxx
      exact qv_same h (-1) hxx (by simp only [fX12_acts, e1, hb, ey, hy, qc_bds, if_true, qf_ff])
    · obtain ⟨p, hp, rfl, -⟩ := qi_k hy (by decide)
      obtain ⟨g1, g2, g3, -⟩ := m3 p hp
      rw [hy, if_pos rfl, g2 L, qc_bds] at hxx
      refine qv_same h (nI (m p)) hxx ?_
      have e9 : (3 : Int32) * x + nI p = nI (3 * q + p) := by rw [hx, show (3 : Int32) = nI 3 by decide, qi_mul, nI_add]
      simp only [fX12_acts, e1, hb, ey, hy, qc_bds, if_true, e9, qi_inbN (show 3 * q + p < 36 by omega) (by decide), qc_gdt, nI_clamp (show 3 * q + p < 2 ^ 31 by omega), g3]
theorem qi_lt3 {y : Int32} {α : Type} (a b c : α) : (if y < 0 then a else if (3 : Int32) ≤ y then b else c) = if qc_inb y 3 = true then c else if y < 0 then a else b := by
  simp only [Int32.lt_iff_toInt_lt, Int32.le_iff_toInt_le, show (0 : Int32).toInt = 0 from rfl, show (3 : Int32).toInt = 3 from rfl]
  by_cases h1 : y.toInt < 0
  · rw [if_pos h1, qi_inbF (by omega), qf_ff, if_pos h1]
  · rw [if_neg h1]
    by_cases h2 : 3 ≤ y.toInt
    · rw [if_pos h2, qi_inbF (by omega), qf_ff, if_neg h1]
    · rw [if_neg h2, (qi_inb_iff y 3).mpr (by omega), if_pos rfl]
theorem pp_act (h : Inv w (I, L, D, R)) (x y z v : Int32) : qv_pp w (fun I L D R => fX11_act w I L D R x y z v) (fun I L D R => fX12_act w I L D R x y z v) (I, L, D, R) := by
  obtain ⟨n, hn, -, -, e1, e2, e3⟩ := qq_find h x
  cases hb : qc_inb x n
  · refine qv_same h (-2) ?_ (by simp only [fX12_act, e1, hb, qc_bds, qf_ff])
    simp only [fX11_act, e2 hb, qc_bds]
    rfl
  · obtain ⟨q, hq, hx, hx2⟩ := qi_k hb (by omega)
    obtain ⟨f1, hB⟩ := e3 q hx hq
    obtain ⟨m, m1, m2, m3⟩ := qq_sizes hB
    have ey : fX12_in w I L D R (Int32.toInt64 y) 0 2 = some (qc_inb y 3, I, L, D, R) := fm_in 3 (by decide)
    cases hy : qc_inb y 3
    · refine qv_same h (-2) ?_ (by simp only [fX12_act, e1, hb, ey, hy, qc_bds, if_true, qf_ff])
      simp only [fX11_act, f1, qc_bds, qq_255 m1, Bool.false_eq_true, if_false, m2, qc_gdt, qi_lt3, hy]
      split <;> rfl
    · obtain ⟨p, hp, rfl, -⟩ := qi_k hy (by decide)
      obtain ⟨g1, g2, g3, g4⟩ := m3 p hp
      have e9 : (3 : Int32) * x + nI p = nI (3 * q + p) := by rw [hx, show (3 : Int32) = nI 3 by decide, qi_mul, nI_add]
      have ez : fX12_in w I L D R (Int32.toInt64 z) 0 (Int32.toInt64 (nI (m p) - 1)) = some (qc_inb z (m p), I, L, D, R) := fm_in (m p) (qi_m1 rfl (by omega))
      have ev : fX12_in w I L D R (Int32.toInt64 v) 0 1 = some (qc_inb v 2, I, L, D, R) := fm_in 2 (by decide)
      have hM : fX12_act w I L D R x (nI p) z v = if qc_inb z (m p) = true then (if qc_inb v 2 = true then (if v = 0 then (qc_gd (qc_inb ((((600 : Int32) * x) + ((200 : Int32) * nI p)) + z) 7200) <| some ((I 315 (Int32.toNatClampNeg ((((600 : Int32) * x) + ((200 : Int32) * nI p)) + z))), I, L, D, R)) else (qc_gd (qc_inb ((((600 : Int32) * x) + ((200 : Int32) * nI p)) + z) 7200) <| some ((I 316 (Int32.toNatClampNeg ((((600 : Int32) * x) + ((200 : Int32) * nI p)) + z))), I, L, D, R))) else (some ((-2 : Int32), I, L, D, R))) else (some ((-2 : Int32), I, L, D, R)) := by
        simp only [fX12_act, e1, hb, ey, hy, qc_bds, if_true, e9, qi_inbN (show 3 * q + p < 36 by omega) (by decide), qc_gdt, nI_clamp (show 3 * q + p < 2 ^ 31 by omega), g3, ez, ev]
      have hX : fX11_act w I L D R x (nI p) z v = if qc_inb z (m p) = true then (if v = 0 then (qc_bd (fX7_op w I L D R (R 290 q) (nI p) z) fun r12 I12 L12 D12 R12 => some (r12, I12, L12, D12, R12)) else (if v = (1 : Int32) then (qc_bd (fX7_number w I L D R (R 290 q) (nI p) z) fun r11 I11 L11 D11 R11 => some (r11, I11, L11, D11, R11)) else (some ((-2 : Int32), I, L, D, R)))) else (some ((-2 : Int32), I, L, D, R)) := by
        simp only [fX11_act, f1, qc_bds, qq_255 m1, Bool.false_eq_true, if_false, m2, qc_gdt, qi_lt3, hy, if_true, g2 L]
        simp only [Int32.lt_iff_toInt_lt, show (0 : Int32).toInt = 0 from rfl, nI_toInt (show m p < 2 ^ 31 by omega)]
        by_cases h1 : z.toInt < 0
        · rw [if_pos h1, qi_inbF (by omega), qf_ff]
        · rw [if_neg h1]
          by_cases h2 : z.toInt < m p
          · rw [if_pos h2, (qi_inb_iff z (m p)).mpr (by omega), if_pos rfl]
          · rw [if_neg h2, qi_inbF (by omega), qf_ff]
      cases hz : qc_inb z (m p)
      · rw [hz, qf_ff] at hM hX
        exact qv_same h (-2) hX hM
      · obtain ⟨i, hi, rfl, -⟩ := qi_k hz (by omega)
        obtain ⟨o1, o2⟩ := g4 i hi L
        have e10 : (600 : Int32) * x + (200 : Int32) * nI p + nI i = nI (600 * q + 200 * p + i) := by rw [hx, show (600 : Int32) = nI 600 by decide, show (200 : Int32) = nI 200 by decide, qi_mul, qi_mul, nI_add, nI_add]
        rw [hz, if_pos rfl, o1, o2, qc_bds, qc_bds] at hX
        rw [hz, if_pos rfl, e10, qi_inbN (show 600 * q + 200 * p + i < 7200 by omega) (by decide), qc_gdt, qc_gdt, nI_clamp (by omega)] at hM
        by_cases v0 : v = 0
        · subst v0
          rw [if_pos rfl] at hX
          rw [show qc_inb 0 2 = true by decide, if_pos rfl, if_pos rfl] at hM
          exact qv_same h _ hX hM
        · rw [if_neg v0] at hX hM
          by_cases v1 : v = 1
          · subst v1
            rw [if_pos rfl] at hX
            rw [show qc_inb 1 2 = true by decide, if_pos rfl] at hM
            exact qv_same h _ hX hM
          · rw [if_neg v1] at hX
            have : qc_inb v 2 = false := by
              cases e : qc_inb v 2
              · rfl
              · exfalso
                obtain ⟨k, hk, rfl, -⟩ := qi_k e (by decide)
                rcases (show k = 0 ∨ k = 1 by omega) with rfl | rfl
                · exact v0 (by decide)
                · exact v1 (by decide)
            rw [this, qf_ff] at hM
            exact qv_same h _ hX hM
end
