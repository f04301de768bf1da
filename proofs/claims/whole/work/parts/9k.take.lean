/-! figures -/
theorem nL_sub {a c : Nat} (h : c ≤ a) (ha : a < 2 ^ 63) : nL a - nL c = nL (a - c) := by
  have : nL a = nL (a - c) + nL c := by rw [nL_add, Nat.sub_add_cancel h]
  rw [this, Int64.add_sub_cancel]
theorem nL_mul (a c : Nat) : nL a * nL c = nL (a * c) := by
  unfold nL
  rw [UInt64.ofNat_mul]
  rfl
theorem nL_lt {a c : Nat} (ha : a < 2 ^ 63) (hc : c < 2 ^ 63) : nL a < nL c ↔ a < c := by
  rw [Int64.lt_iff_toInt_lt, nL_toInt ha, nL_toInt hc]
  omega
def qt_cap (v : Nat) : Nat := min v 2147483648
theorem qt_cap_s (v d : Nat) : min (10 * qt_cap v + d) 2147483648 = qt_cap (10 * v + d) := by unfold qt_cap; omega
theorem qt_cap_t (v : Nat) : min (qt_cap v * 10) 2147483648 = qt_cap (v * 10) := by unfold qt_cap; omega
theorem qt_cap_le (v : Nat) : qt_cap v ≤ 2147483648 := Nat.min_le_right _ _
theorem qt_dv_s (b : Nat → Nat) (v s : Nat) : ∀ n, qt_dv b (10 * v + (b s - 48)) (s + 1) n = qt_dv b v s (n + 1)
  | 0 => rfl
  | n + 1 => by
    show 10 * qt_dv b _ (s + 1) n + (b (s + 1 + n) - 48) = 10 * qt_dv b v s (n + 1) + (b (s + (n + 1)) - 48)
    rw [qt_dv_s b v s n, show s + 1 + n = s + (n + 1) by omega]
theorem qf_divL_N (v c : Nat) (hc : 0 < c) (hc2 : c < 2 ^ 63) : qc_n64 (FP.ddiv (FP.l2d (nL v)) (FP.l2d (nL c))) = true := by
  have h0 : nL c ≠ 0 := fun z => by have := (nL_inj (b := 0) hc2 (by decide)).mp z; omega
  have h1 : FP.Core.DFin (FP.l2d (nL c)) := FP.Core.l2d_fin _
  have h2 : ¬ FP.Core.DZero (FP.l2d (nL c)) := fun q => FP.Core.l2d_ne_zero h0 ((FP.Core.zero_bits2 _).mp q)
  exact (qf_n64 _).mpr ((FP.Core.notNaN_iff _).mp (FP.Core.ddiv_out ((FP.Core.notNaN_iff _).mpr (qf_l2d_N _)) h1 h2))
section
variable {w : qcW} {I : qTI} {L : qTL} {D : qTD} {R : qTR} {b : Nat → Nat} {len : Nat}
theorem cx_min {a c : Nat} (ha : a < 2 ^ 63) (hc : c < 2 ^ 63) : fJ9_min_f86c9 w I L D R (nL a) (nL c) = some (nL (min a c), I, L, D, R) := by
  unfold fJ9_min_f86c9
  by_cases h : c < a
  · rw [if_pos ((lg_cmp_gt _ _).mpr ((nL_lt hc ha).mpr h)), Nat.min_eq_right (by omega)]
  · rw [if_neg (fun z => h ((nL_lt hc ha).mp ((lg_cmp_gt _ _).mp z))), Nat.min_eq_left (by omega)]
/-- one figure more -/
theorem cx_dig {v c : Nat} (hc : 48 ≤ c ∧ c ≤ 57) : ((nL (qt_cap v) * (10 : Int64)) + (Int32.toInt64 (qt_i c))) - (48 : Int64) = nL (10 * qt_cap v + (c - 48)) := by
  have h := qt_cap_le v
  unfold qt_i
  rw [if_neg (by omega), nI_L (by omega), show (10 : Int64) = nL 10 by decide, show (48 : Int64) = nL 48 by decide, nL_mul, nL_add, nL_sub (by omega) (by omega)]
  congr 1
  omega
/-- behind the point -/
theorem cx_fig2 (hB : qt_B b len) {x4 : Int32} (h4 : x4 ≠ -1) : ∀ (m N p i v f k : Nat) (I : qTI), tpX b len I → I 268 3 = nI p → p + m ≤ 400 → i + m ≤ 400 → m < N → (∀ j, j < m → qt_fi (b (p + j)) = true) → qt_fi (b (p + m)) = false → f + m ≤ 1000 → fX9_readFigures_l13 w N (I, L, D, R, nL (qt_cap v), nI f, x4, nL (qt_cap (10 ^ k)), nI i) = fX9_readFigures_b146 w (qc_u I 268 3 (nI (p + m))) L D R (nL (qt_cap (qt_dv b v p m))) (nI (f + m)) x4 (nL (qt_cap (10 ^ (k + m))))
  | 0, N + 1, p, i, v, f, k, I, hT, h3, h1, h2, _, _, hb, _ => by
    rw [fX9_readFigures_l13_s]
    unfold fX9_readFigures_b13
    rw [Nat.add_zero, qx_self h3, Nat.add_zero, Nat.add_zero]
    show _ = fX9_readFigures_b146 w I L D R (nL (qt_cap v)) _ _ _
    by_cases hi : (400 : Int32) ≤ nI i
    · rw [if_pos hi]
    · rw [if_neg hi, h3, cx_at hB hT (by omega), qc_bds, cx_fi (qt_le256 hB p), qc_bds]
      rw [Nat.add_zero] at hb
      rw [hb, if_neg (by decide), if_neg h4]
      split <;> rfl
  | m + 1, N + 1, p, i, v, f, k, I, hT, h3, h1, h2, hN, hall, hb, hf => by
    rw [fX9_readFigures_l13_s]
    unfold fX9_readFigures_b13 fX9_readFigures_b87 fX9_readFigures_b130
    have hi : ¬ (400 : Int32) ≤ nI i := fun z => by have := (qi_le (a := 400) (by decide) (by omega)).mp z; omega
    have h0 := hall 0 (by omega)
    rw [Nat.add_zero] at h0
    have hc := qt_cap_le v
    have hk := qt_cap_le (10 ^ k)
    have hd := qt_fi_iff.mp h0
    rw [if_neg hi, h3, cx_at hB hT (by omega), qc_bds, cx_fi (qt_le256 hB p), qc_bds, h0, if_pos rfl, cx_dig hd, show (2147483648 : Int64) = nL 2147483648 by decide, cx_min (by omega) (by decide), qc_bds, if_neg h4, show (10 : Int64) = nL 10 by decide, nL_mul, cx_min (by omega) (by decide), qc_bds, h3, qt_cap_s, qt_cap_t]
    rw [show nI f + 1 = nI (f + 1) from qi_s1 f, show nI p + 1 = nI (p + 1) from qi_s1 p, show nI i + 1 = nI (i + 1) from qi_s1 i, show 10 ^ k * 10 = 10 ^ (k + 1) from (Nat.pow_succ 10 k).symm]
    rw [cx_fig2 hB h4 m N (p + 1) (i + 1) _ (f + 1) (k + 1) _ (tpX_268 hT 3 _) (qc_u_at _ _ _ _) (by omega) (by omega) (by omega) (fun j hj => by have := hall (j + 1) (by omega); rw [show p + 1 + j = p + (j + 1) by omega]; exact this) (by rw [show p + 1 + m = p + (m + 1) by omega]; exact hb) (by omega), qc_uu, show p + 1 + m = p + (m + 1) by omega, qt_dv_s, show f + 1 + m = f + (m + 1) by omega, show k + 1 + m = k + (m + 1) by omega]
/-- ahead of the point -/
theorem cx_fig1 (hB : qt_B b len) : ∀ (m N p i v f : Nat) (I : qTI), tpX b len I → I 268 3 = nI p → p + m < 401 → i + m ≤ 400 → m < N → (∀ j, j < m → qt_fi (b (p + j)) = true) → qt_fi (b (p + m)) = false → f + m ≤ 1000 → fX9_readFigures_l13 w N (I, L, D, R, nL (qt_cap v), nI f, -1, nL 1, nI i) =
      if (Nat.beq (b (p + m)) 46 && qt_fi (b (p + m + 1))) = true then (if i + m = 400 then fX9_readFigures_b146 w (qc_u I 268 3 (nI (p + m))) L D R (nL (qt_cap (qt_dv b v p m))) (nI (f + m)) (-1) (nL 1) else fX9_readFigures_l13 w (N - m - 1) (qc_u I 268 3 (nI (p + m + 1)), L, D, R, nL (qt_cap (qt_dv b v p m)), nI (f + m), nI (p + m), nL 1, nI (i + m + 1))) else fX9_readFigures_b146 w (qc_u I 268 3 (nI (p + m))) L D R (nL (qt_cap (qt_dv b v p m))) (nI (f + m)) (-1) (nL 1)
  | 0, N + 1, p, i, v, f, I, hT, h3, h1, h2, _, _, hb, _ => by
    rw [fX9_readFigures_l13_s]
    unfold fX9_readFigures_b13 fX9_readFigures_b130
    simp only [Nat.add_zero, qx_self h3] at hb ⊢
    show _ = if _ then (if _ then fX9_readFigures_b146 w I L D R (nL (qt_cap v)) _ _ _ else fX9_readFigures_l13 w _ (_, L, D, R, nL (qt_cap v), _, _, _, _)) else fX9_readFigures_b146 w I L D R (nL (qt_cap v)) _ _ _
    by_cases hi : (400 : Int32) ≤ nI i
    · have hi2 := (qi_le (a := 400) (by decide) (by omega)).mp hi
      rw [if_pos hi, if_pos (show i = 400 by omega)]
      split <;> rfl
    · have hi2 : ¬ i = 400 := fun z => hi ((qi_le (a := 400) (by decide) (by omega)).mpr (by omega))
      have e46 : qt_i (b p) = 46 ↔ b p = 46 := qt_i_eq (k := 46) (qt_le256 hB p) (by decide)
      rw [if_neg hi, h3, cx_at hB hT (by omega), qc_bds, cx_fi (qt_le256 hB p), qc_bds, hb, if_neg (by decide), if_neg hi2, if_pos trivial]
      by_cases c1 : b p = 46
      · rw [if_pos (e46.mpr c1), c1, h3, qi_s1, cx_at hB hT (by omega), qc_bds, cx_fi (qt_le256 hB _), qc_bds]
        show (if qt_fi (b (p + 1)) = true then _ else _) = if qt_fi (b (p + 1)) = true then _ else _
        split
        · rw [h3, qi_s1, qi_s1]
          rfl
        · rfl
      · rw [if_neg (fun z => c1 (e46.mp z)), if_neg (fun z => c1 (qs_beq.mp (Bool.and_eq_true_iff.mp z).1))]
  | m + 1, N + 1, p, i, v, f, I, hT, h3, h1, h2, hN, hall, hb, hf => by
    rw [fX9_readFigures_l13_s]
    unfold fX9_readFigures_b13 fX9_readFigures_b87 fX9_readFigures_b130
    have hi : ¬ (400 : Int32) ≤ nI i := fun z => by have := (qi_le (a := 400) (by decide) (by omega)).mp z; omega
    have h0 := hall 0 (by omega)
    rw [Nat.add_zero] at h0
    have hc := qt_cap_le v
    have hd := qt_fi_iff.mp h0
    rw [if_neg hi, h3, cx_at hB hT (by omega), qc_bds, cx_fi (qt_le256 hB p), qc_bds, h0, if_pos rfl, cx_dig hd, show (2147483648 : Int64) = nL 2147483648 by decide, cx_min (by omega) (by decide), qc_bds, if_pos rfl, h3, qt_cap_s]
    rw [show nI f + 1 = nI (f + 1) from qi_s1 f, show nI p + 1 = nI (p + 1) from qi_s1 p, show nI i + 1 = nI (i + 1) from qi_s1 i, show (1 : Int64) = nL 1 by decide]
    rw [cx_fig1 hB m N (p + 1) (i + 1) _ (f + 1) _ (tpX_268 hT 3 _) (qc_u_at _ _ _ _) (by omega) (by omega) (by omega) (fun j hj => by have := hall (j + 1) (by omega); rw [show p + 1 + j = p + (j + 1) by omega]; exact this) (by rw [show p + 1 + m = p + (m + 1) by omega]; exact hb) (by omega), qc_uu, qc_uu, show p + 1 + m = p + (m + 1) by omega, qt_dv_s, show f + 1 + m = f + (m + 1) by omega, show i + 1 + m = i + (m + 1) by omega, show N - m - 1 = N + 1 - (m + 1) - 1 by omega]
/-- a refusal -/
theorem cx_refuse (h6 : I 268 6 = 0) (k a : Int32) : fX9_refuse w I L D R k a = some ((), qc_u (qc_u I 268 6 k) 268 7 a, L, D, qc_u R 268 1 4) := by
  unfold fX9_refuse
  rw [if_pos h6]
theorem cx_refuse0 (h6 : I 268 6 ≠ 0) (k a : Int32) : fX9_refuse w I L D R k a = some ((), I, L, D, R) := by
  unfold fX9_refuse
  rw [if_neg h6]
theorem qt_dv_lt (b : Nat → Nat) (v s : Nat) : ∀ n, (∀ j, j < n → qt_fi (b (s + j)) = true) → qt_dv b v s n < (v + 1) * 10 ^ n
  | 0, _ => by show v < (v + 1) * 1; omega
  | n + 1, h => by
    have ih := qt_dv_lt b v s n (fun j hj => h j (by omega))
    have hd := qt_fi_iff.mp (h n (by omega))
    show 10 * qt_dv b v s n + (b (s + n) - 48) < (v + 1) * 10 ^ (n + 1)
    rw [Nat.pow_succ, ← Nat.mul_assoc]
    omega
theorem qt_pow_le {m n : Nat} (h : m ≤ n) : 10 ^ m ≤ 10 ^ n := Nat.pow_le_pow_right (by decide) h
/-- where the figures end -/
theorem qt_figs (hB : qt_B b len) {s : Nat} (hs : s ≤ len) : (∀ j, j < qt_f1 b s - s → qt_fi (b (s + j)) = true) ∧ qt_fi (b (qt_f1 b s)) = false ∧ s ≤ qt_f1 b s ∧ qt_f1 b s ≤ len ∧ (qt_isR b s = true → (∀ j, j < qt_f2 b s - (qt_f1 b s + 1) → qt_fi (b (qt_f1 b s + 1 + j)) = true) ∧ qt_fi (b (qt_f2 b s)) = false ∧ qt_f1 b s + 2 ≤ qt_f2 b s ∧ qt_f2 b s ≤ len) := by
  have hl := hB.1
  refine ⟨fun j hj => qt_run_in qt_fi b 401 s (s + j) (by omega) (by have : qt_run qt_fi b 401 s = qt_f1 b s := rfl; omega), qt_run_end qt_fi hB rfl 401 s (by omega), qt_run_le qt_fi b 401 s, qt_run_max qt_fi hB rfl 401 s hs, fun h => ?_⟩
  have c5 : qt_fi (b (qt_f1 b s + 1)) = true := (Bool.and_eq_true_iff.mp h).2
  have a3 := qt_fi_lt hB c5
  exact ⟨fun j hj => qt_run_in qt_fi b 401 (qt_f1 b s + 1) (qt_f1 b s + 1 + j) (by omega) (by have : qt_run qt_fi b 401 (qt_f1 b s + 1) = qt_f2 b s := rfl; omega), qt_run_end qt_fi hB rfl 401 _ (by omega), qt_run_1 qt_fi b 400 _ c5, qt_run_max qt_fi hB rfl 401 _ (by omega)⟩
theorem cx_figs (hB : qt_B b len) (hT : tpX b len I) {s : Nat} (hs : s ≤ len) (h2 : I 268 2 = nI s) (h3 : I 268 3 = nI s) (h6 : I 268 6 = 0) (hf : qt_fi (b s) = true) :
    ∃ (I' : qTI) (D' : qTD) (m : Nat), (fX9_readFigures w I L D R = some ((), I', L, D', qc_u R 268 1 m)) ∧ (∀ a k, a ≠ 268 → I' a k = I a k) ∧ (∀ a k, a ≠ 268 → D' a k = D a k) ∧ I' 268 2 = nI s ∧
      ((qt_isR b s = true ∧ (qt_f1 b s - s) + (qt_f2 b s - (qt_f1 b s + 1)) ≤ 9 ∧ m = 2 ∧ I' 268 3 = nI (qt_f2 b s) ∧ I' 268 6 = 0 ∧ D' 268 5 = FP.ddiv (FP.l2d (nL (qt_rv b s))) (FP.l2d (nL (10 ^ (qt_f2 b s - (qt_f1 b s + 1)))))) ∨
       (qt_isR b s = false ∧ qt_nv b s < 2147483648 ∧ m = 1 ∧ I' 268 3 = nI (qt_f1 b s) ∧ I' 268 6 = 0 ∧ I' 268 4 = nI (qt_nv b s)) ∨
       ((qt_isR b s = true ∧ ¬ (qt_f1 b s - s) + (qt_f2 b s - (qt_f1 b s + 1)) ≤ 9 ∨ qt_isR b s = false ∧ ¬ qt_nv b s < 2147483648) ∧ m = 4 ∧ I' 268 6 = 1 ∧ I' 268 7 = nI s)) := by
  have hl := hB.1
  obtain ⟨a1, a2, a3, a4, a5⟩ := qt_figs hB hs
  have e1 := cx_fig1 (w := w) (L := L) (D := D) (R := R) hB (qt_f1 b s - s) qcF s 0 0 0 I hT h3 (by omega) (by omega) (by unfold qcF; omega) a1 (by rw [show s + (qt_f1 b s - s) = qt_f1 b s by omega]; exact a2) (by omega)
  rw [show s + (qt_f1 b s - s) = qt_f1 b s by omega, Nat.zero_add] at e1
  have e0 : fX9_readFigures w I L D R = fX9_readFigures_l13 w qcF (I, L, D, R, nL (qt_cap 0), nI 0, -1, nL 1, nI 0) := rfl
  have off : ∀ (v : Int32) a k, a ≠ 268 → qc_u I 268 3 v a k = I a k := fun v a k h => qc_u_ne _ _ (Or.inl h)
  by_cases hR : qt_isR b s = true
  · obtain ⟨c1, c2, c3, c4⟩ := a5 hR
    have hR' : (Nat.beq (b (qt_f1 b s)) 46 && qt_fi (b (qt_f1 b s + 1))) = true := hR
    have e2 := cx_fig2 (w := w) (L := L) (D := D) (R := R) hB (x4 := nI (qt_f1 b s)) (qi_nI_m1 (by omega)) (qt_f2 b s - (qt_f1 b s + 1)) (qcF - (qt_f1 b s - s) - 1) (qt_f1 b s + 1) (qt_f1 b s - s + 1) (qt_nv b s) (qt_f1 b s - s) 0 (qc_u I 268 3 (nI (qt_f1 b s + 1))) (tpX_268 hT 3 _) (qc_u_at _ _ _ _) (by omega) (by omega) (by unfold qcF; omega) c1 (by rw [show qt_f1 b s + 1 + (qt_f2 b s - (qt_f1 b s + 1)) = qt_f2 b s by omega]; exact c2) (by omega)
    rw [show qt_cap (10 ^ 0) = 1 by decide, show qt_f1 b s + 1 + (qt_f2 b s - (qt_f1 b s + 1)) = qt_f2 b s by omega, qc_uu, Nat.zero_add] at e2
    rw [if_pos hR', if_neg (by omega)] at e1
    have e3 := e0.trans (e1.trans e2)
    unfold fX9_readFigures_b146 fX9_readFigures_b179 fX9_readFigures_b195 fX9_readFigures_b169 at e3
    rw [if_neg (qi_nI_m1 (by omega)), if_neg (qi_nI_m1 (by omega)), show qc_l62 2 = true from rfl, qc_gdt] at e3
    have h9 : nI (qt_f1 b s - s + (qt_f2 b s - (qt_f1 b s + 1))) ≤ 9 ↔ (qt_f1 b s - s) + (qt_f2 b s - (qt_f1 b s + 1)) ≤ 9 := qi_le (b := 9) (by omega) (by decide)
    by_cases h : (qt_f1 b s - s) + (qt_f2 b s - (qt_f1 b s + 1)) ≤ 9
    · have hv : qt_rv b s < 2147483648 := by
        have k1 := qt_dv_lt b 0 s _ a1
        have k2 := qt_dv_lt b (qt_nv b s) (qt_f1 b s + 1) _ c1
        have k3 : qt_nv b s + 1 ≤ 10 ^ (qt_f1 b s - s) := by rw [Nat.zero_add, Nat.one_mul] at k1; exact k1
        have k4 : (qt_nv b s + 1) * 10 ^ (qt_f2 b s - (qt_f1 b s + 1)) ≤ 10 ^ (qt_f1 b s - s) * 10 ^ (qt_f2 b s - (qt_f1 b s + 1)) := Nat.mul_le_mul_right _ k3
        rw [← Nat.pow_add] at k4
        have k5 := qt_pow_le h
        have : 10 ^ 9 = 1000000000 := by decide
        have : qt_rv b s < (qt_nv b s + 1) * 10 ^ (qt_f2 b s - (qt_f1 b s + 1)) := k2
        omega
      have hp : 10 ^ (qt_f2 b s - (qt_f1 b s + 1)) ≤ 1000000000 := by
        have := qt_pow_le (m := qt_f2 b s - (qt_f1 b s + 1)) (n := 9) (by omega)
        have : 10 ^ 9 = 1000000000 := by decide
        omega
      have hp0 : 0 < 10 ^ (qt_f2 b s - (qt_f1 b s + 1)) := Nat.pow_pos (by decide)
      have f1 : qt_cap (qt_dv b (qt_nv b s) (qt_f1 b s + 1) (qt_f2 b s - (qt_f1 b s + 1))) = qt_rv b s := by
        show qt_cap (qt_rv b s) = _
        unfold qt_cap; omega
      have f2 : qt_cap (10 ^ (qt_f2 b s - (qt_f1 b s + 1))) = 10 ^ (qt_f2 b s - (qt_f1 b s + 1)) := by unfold qt_cap; omega
      rw [if_pos (h9.mpr h), f1, f2, qf_divL_N _ _ hp0 (by omega), qc_gdt] at e3
      refine ⟨_, _, 2, e3, fun a k ha => ?_, fun a k ha => qc_u_ne _ _ (Or.inl ha), ?_, Or.inl ⟨hR, h, rfl, ?_, ?_, qc_u_at _ _ _ _⟩⟩
      · rw [qc_u_ne _ _ (Or.inl ha), off _ a k ha]
      · rw [qc_u_ne _ _ (Or.inr (by decide)), qc_u_ne _ _ (Or.inr (by decide)), h2]
      · rw [qc_u_ne _ _ (Or.inr (by decide)), qc_u_at]
      · rw [qc_u_ne _ _ (Or.inr (by decide)), qc_u_ne _ _ (Or.inr (by decide)), h6]
    · rw [if_neg (fun z => h (h9.mp z)), cx_refuse ((qc_u_ne _ _ (Or.inr (by decide))).trans h6), qc_bds] at e3
      refine ⟨_, D, 4, e3, fun a k ha => ?_, fun _ _ _ => rfl, ?_, Or.inr (Or.inr ⟨Or.inl ⟨hR, h⟩, rfl, ?_, ?_⟩)⟩
      · rw [qc_u_ne _ _ (Or.inl ha), qc_u_ne _ _ (Or.inl ha), off _ a k ha]
      · rw [qc_u_ne _ _ (Or.inr (by decide)), qc_u_ne _ _ (Or.inr (by decide)), qc_u_ne _ _ (Or.inr (by decide)), h2]
      · rw [qc_u_ne _ _ (Or.inr (by decide)), qc_u_at]
      · rw [qc_u_at, qc_u_ne _ _ (Or.inr (by decide)), h2]
  · have hR' : ¬ (Nat.beq (b (qt_f1 b s)) 46 && qt_fi (b (qt_f1 b s + 1))) = true := hR
    rw [if_neg hR'] at e1
    have e3 := e0.trans e1
    have hRf := Bool.eq_false_iff.mpr hR
    unfold fX9_readFigures_b146 fX9_readFigures_b179 fX9_readFigures_b195 fX9_readFigures_b169 at e3
    rw [if_pos rfl, if_pos rfl, show qc_l62 1 = true from rfl, qc_gdt] at e3
    have f0 : qt_dv b 0 s (qt_f1 b s - s) = qt_nv b s := rfl
    have hc := qt_cap_le (qt_nv b s)
    have h9 : lg_cmp (nL (qt_cap (qt_dv b 0 s (qt_f1 b s - s)))) 2147483648 < 0 ↔ qt_nv b s < 2147483648 := by
      rw [lg_cmp_lt, show (2147483648 : Int64) = nL 2147483648 by decide, f0, nL_lt (by omega) (by decide)]
      unfold qt_cap
      omega
    by_cases h : qt_nv b s < 2147483648
    · rw [if_pos (h9.mpr h), qf_divL_N _ 1 (by decide) (by decide), qc_gdt, f0, show qt_cap (qt_nv b s) = qt_nv b s by unfold qt_cap; omega, nL_I (by omega)] at e3
      refine ⟨_, _, 1, e3, fun a k ha => ?_, fun a k ha => qc_u_ne _ _ (Or.inl ha), ?_, Or.inr (Or.inl ⟨hRf, h, rfl, ?_, ?_, qc_u_at _ _ _ _⟩)⟩
      · rw [qc_u_ne _ _ (Or.inl ha), off _ a k ha]
      · rw [qc_u_ne _ _ (Or.inr (by decide)), qc_u_ne _ _ (Or.inr (by decide)), h2]
      · rw [qc_u_ne _ _ (Or.inr (by decide)), qc_u_at]
      · rw [qc_u_ne _ _ (Or.inr (by decide)), qc_u_ne _ _ (Or.inr (by decide)), h6]
    · rw [if_neg (fun z => h (h9.mp z)), cx_refuse ((qc_u_ne _ _ (Or.inr (by decide))).trans h6), qc_bds] at e3
      refine ⟨_, D, 4, e3, fun a k ha => ?_, fun _ _ _ => rfl, ?_, Or.inr (Or.inr ⟨Or.inr ⟨hRf, h⟩, rfl, ?_, ?_⟩)⟩
      · rw [qc_u_ne _ _ (Or.inl ha), qc_u_ne _ _ (Or.inl ha), off _ a k ha]
      · rw [qc_u_ne _ _ (Or.inr (by decide)), qc_u_ne _ _ (Or.inr (by decide)), qc_u_ne _ _ (Or.inr (by decide)), h2]
      · rw [qc_u_ne _ _ (Or.inr (by decide)), qc_u_at]
      · rw [qc_u_at, qc_u_ne _ _ (Or.inr (by decide)), h2]
end
