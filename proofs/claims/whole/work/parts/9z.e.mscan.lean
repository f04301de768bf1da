/-! the reference's scanner -/
def tpM (b : Nat → Nat) (len : Nat) (I : qTI) : Prop := I 291 8 = nI len ∧ ∀ p, p < len → I 297 p = nI (b p)
def qt_rel (x v : Nat) : Prop := x < 10 ^ 13 ∧ (x = v ∨ (99999999999 < x ∧ 99999999999 < v))
theorem qt_rel_s {x v d : Nat} (h : qt_rel x v) (hd : d ≤ 9) : qt_rel (if x ≤ 99999999999 then 10 * x + d else x) (10 * v + d) := by
  unfold qt_rel at h ⊢
  split <;> omega
theorem nL_le {a c : Nat} (ha : a < 2 ^ 63) (hc : c < 2 ^ 63) : nL a ≤ nL c ↔ a ≤ c := by
  rw [Int64.le_iff_toInt_le, nL_toInt ha, nL_toInt hc]
  omega
theorem qt_wv_lt (b : Nat → Nat) (s : Nat) : ∀ n, (∀ j, j < n → qt_le (b (s + j)) = true) → qt_wv b s n < 32 ^ n
  | 0, _ => by show 0 < 1; omega
  | n + 1, h => by
    have ih := qt_wv_lt b s n (fun j hj => h j (by omega))
    have hd := qt_le_iff.mp (h n (by omega))
    show 32 * qt_wv b s n + (b (s + n) - 96) < 32 ^ (n + 1)
    rw [Nat.pow_succ]
    omega
def qt_wo (b : Nat → Nat) (s n : Nat) : Int64 := if n ≤ 12 then nL (qt_wv b s n) else -1
theorem qt_by : ∀ k, k < 12 → FP.dmul (FP.l2d (nL (10 ^ k))) (4621819117588971520 : UInt64) = FP.l2d (nL (10 ^ (k + 1))) := by decide
theorem qt_byn : ∀ k, k < 13 → qc_n64 (FP.l2d (nL (10 ^ k))) = true := by decide
section
variable {w : qcW} {I : qTI} {L : qTL} {D : qTD} {R : qTR} {b : Nat → Nat} {len : Nat}
theorem tpM_co {I' : qTI} (h : tpM b len I) (h1 : I' 291 8 = I 291 8) (h2 : I' 297 = I 297) : tpM b len I' := by
  unfold tpM at h ⊢
  rw [h1, h2]
  exact h
theorem tpM_u (h : tpM b len I) {k : Nat} (hk : k ≠ 8) (v : Int32) : tpM b len (qc_u I 291 k v) := tpM_co h (qc_u_ne _ _ (Or.inr (fun z => hk z.symm))) (qc_u_off _ _ (by decide))
theorem mx_at (hB : qt_B b len) (hT : tpM b len I) {p : Nat} (hp : p < 2 ^ 30) : fX12_byteAt w I L D R (nI p) = some (qt_i (b p), I, L, D, R) := by
  have hl := hB.1
  unfold fX12_byteAt
  rw [hT.1]
  by_cases h : len ≤ p
  · rw [if_pos ((qi_le (by omega) (by omega)).mpr h), hB.2.2 p h]
    rfl
  · rw [if_neg (fun z => h ((qi_le (by omega) (by omega)).mp z)), qi_inbN (by omega) (by decide), qc_gdt, nI_clamp (by omega), hT.2 p (by omega)]
    have := hB.2.1 p (by omega)
    unfold qt_i
    rw [if_neg (by omega)]
theorem mx_in {c lo hi : Nat} (hc : c ≤ 256) (h0 : 0 < lo) (hl : lo < 256) (h1 : hi < 256) : fX12_in w I L D R (Int32.toInt64 (qt_i c)) (nL lo) (nL hi) = some (Nat.ble lo c && Nat.ble c hi, I, L, D, R) := by
  unfold fX12_in qt_i
  by_cases z : c = 256
  · rw [if_pos z, if_pos ((lg_cmp_lt _ _).mpr (by
      rw [Int64.lt_iff_toInt_lt, nL_toInt (by omega)]
      have : (Int32.toInt64 (-1 : Int32)).toInt = -1 := by decide
      omega)), show Nat.ble c hi = false from Bool.eq_false_iff.mpr (fun y => by have := Nat.ble_eq.mp y; omega), Bool.and_false]
  · rw [if_neg z, nI_L (by omega)]
    by_cases y : c < lo
    · rw [if_pos ((lg_cmp_lt _ _).mpr ((nL_lt (by omega) (by omega)).mpr y)), show Nat.ble lo c = false from Bool.eq_false_iff.mpr (fun y => by have := Nat.ble_eq.mp y; omega), Bool.false_and]
    · rw [if_neg (fun u => y ((nL_lt (by omega) (by omega)).mp ((lg_cmp_lt _ _).mp u))), show Nat.ble lo c = true from Nat.ble_eq.mpr (by omega), Bool.true_and]
      by_cases u : hi < c
      · rw [if_pos ((lg_cmp_gt _ _).mpr ((nL_lt (by omega) (by omega)).mpr u)), show Nat.ble c hi = false from Bool.eq_false_iff.mpr (fun y => by have := Nat.ble_eq.mp y; omega)]
      · rw [if_neg (fun v => u ((nL_lt (by omega) (by omega)).mp ((lg_cmp_gt _ _).mp v))), show Nat.ble c hi = true from Nat.ble_eq.mpr (by omega)]
theorem mx_le {c : Nat} (hc : c ≤ 256) : fX12_in w I L D R (Int32.toInt64 (qt_i c)) (97 : Int64) (122 : Int64) = some (qt_le c, I, L, D, R) := mx_in (lo := 97) (hi := 122) hc (by decide) (by decide) (by decide)
theorem mx_fi0 {c : Nat} (hc : c ≤ 256) : fX12_in w I L D R (Int32.toInt64 (qt_i c)) (48 : Int64) (57 : Int64) = some (qt_fi c, I, L, D, R) := mx_in (lo := 48) (hi := 57) hc (by decide) (by decide) (by decide)
theorem mx_fi (hB : qt_B b len) (hT : tpM b len I) {p : Nat} (hp : p < 2 ^ 30) : fX12_isFigure w I L D R (nI p) = some (qt_fi (b p), I, L, D, R) := by
  unfold fX12_isFigure
  rw [mx_at hB hT hp, qc_bds, mx_fi0 (qt_le256 hB p), qc_bds]
/-- behind the blanks -/
def zN (w : qcW) (c : Int32) (I : qTI) (L : qTL) (D : qTD) (R : qTR) : qcO Unit :=
  if 0 ≤ c then (qc_bd (fX12_in w (qc_u I 291 11 ((I 291 10) + (1 : Int32))) L D R (Int32.toInt64 c) (97 : Int64) (122 : Int64)) fun r7 I7 L7 D7 R7 => if r7 = true then (qc_bd (fX12_letters w I7 L7 D7 R7) fun r18 I18 L18 D18 R18 => some ((), I18, L18, D18, R18)) else (qc_bd (fX12_in w I7 L7 D7 R7 (Int32.toInt64 c) (48 : Int64) (57 : Int64)) fun r9 I9 L9 D9 R9 => if r9 = true then (qc_bd (fX12_figures w I9 L9 D9 R9) fun r17 I17 L17 D17 R17 => some ((), I17, L17, D17, R17)) else (if c = (36 : Int32) then (qc_bd (fX12_byteAt w (qc_u I9 291 9 (4 : Int32)) L9 D9 R9 ((qc_u I9 291 9 (4 : Int32)) 291 11)) fun r13 I13 L13 D13 R13 => qc_bd (fX12_isFigure w (qc_u I13 291 13 (r13 - (48 : Int32))) L13 D13 R13 ((qc_u I13 291 13 (r13 - (48 : Int32))) 291 11)) fun r14 I14 L14 D14 R14 => if r14 = true then (fX12_next_b182 w I14 L14 D14 R14) else (qc_bd (fX12_fail w I14 L14 D14 R14 (1 : Int32) (I14 291 10)) fun r16 I16 L16 D16 R16 => fX12_next_b182 w I16 L16 D16 R16)) else (qc_bd (fX12_sign w I9 L9 D9 R9 c) fun r12 I12 L12 D12 R12 => some ((), I12, L12, D12, R12))))) else (some ((), (qc_u (qc_u (qc_u I 291 11 ((I 291 10) + (1 : Int32))) 291 9 (0 : Int32)) 291 11 ((qc_u (qc_u I 291 11 ((I 291 10) + (1 : Int32))) 291 9 (0 : Int32)) 291 10)), L, D, R))
theorem mx_skip (hB : qt_B b len) : ∀ (m N p : Nat) (I : qTI), tpM b len I → I 291 10 = nI p → p + m ≤ 1000 → m < N → (∀ j, j < m → qt_bl (b (p + j)) = true) → qt_bl (b (p + m)) = false → fX12_next_l16 w N (I, L, D, R) = zN w (qt_i (b (p + m))) (qc_u I 291 10 (nI (p + m))) L D R
  | 0, N + 1, p, I, hT, h3, h1, _, _, hb => by
    rw [fX12_next_l16_s]
    unfold fX12_next_b16
    rw [Nat.add_zero] at hb
    have e1 : qt_i (b p) = 32 ↔ b p = 32 := qt_i_eq (k := 32) (qt_le256 hB p) (by decide)
    have e2 : qt_i (b p) = 10 ↔ b p = 10 := qt_i_eq (k := 10) (qt_le256 hB p) (by decide)
    have nb : ¬ (b p = 32 ∨ b p = 10) := fun z => by rw [qt_bl_iff.mpr z] at hb; cases hb
    rw [Nat.add_zero, qx_self h3, h3, mx_at hB hT (by omega), qc_bds, if_neg (fun z => nb (Or.inl (e1.mp z))), h3, mx_at hB hT (by omega), qc_bds, if_neg (fun z => nb (Or.inr (e2.mp z))), h3, mx_at hB hT (by omega), qc_bds]
    rfl
  | m + 1, N + 1, p, I, hT, h3, h1, hN, hall, hb => by
    rw [fX12_next_l16_s]
    unfold fX12_next_b16 fX12_next_b42
    have e1 : qt_i (b p) = 32 ↔ b p = 32 := qt_i_eq (k := 32) (qt_le256 hB p) (by decide)
    have e2 : qt_i (b p) = 10 ↔ b p = 10 := qt_i_eq (k := 10) (qt_le256 hB p) (by decide)
    have h0 := hall 0 (by omega)
    rw [Nat.add_zero] at h0
    have ih := mx_skip hB m N (p + 1) (qc_u I 291 10 (nI (p + 1))) (tpM_u hT (by decide) _) (qc_u_at _ _ _ _) (by omega) (by omega) (fun j hj => by have := hall (j + 1) (by omega); rw [show p + 1 + j = p + (j + 1) by omega]; exact this) (by rw [show p + 1 + m = p + (m + 1) by omega]; exact hb)
    rw [qc_uu, show p + 1 + m = p + (m + 1) by omega] at ih
    rw [h3, mx_at hB hT (by omega), qc_bds, h3, qi_s1, ih]
    rcases qt_bl_iff.mp h0 with z | z
    · rw [if_pos (e1.mpr z)]
    · rw [if_neg (fun y => by have := e1.mp y; omega), mx_at hB hT (by omega), qc_bds, h3, qi_s1, ih, if_pos (e2.mpr z)]
theorem mx_let (hB : qt_B b len) {s : Nat} : ∀ (m N p : Nat) (I : qTI) (L : qTL), tpM b len I → I 291 10 = nI s → (s ≤ p ∧ ∀ j, j < p - s → qt_le (b (s + j)) = true) → I 291 11 = nI p → L 291 12 = qt_wo b s (p - s) → p + m ≤ 1000 → m < N → (∀ j, j < m → qt_le (b (p + j)) = true) → qt_le (b (p + m)) = false → fX12_letters_l18 w N (I, L, D, R) = some ((), qc_u I 291 11 (nI (p + m)), qc_u L 291 12 (qt_wo b s (p + m - s)), D, R)
  | 0, N + 1, p, I, L, hT, h10, hs, h3, h12, h1, _, _, hb => by
    rw [fX12_letters_l18_s]
    unfold fX12_letters_b18
    rw [Nat.add_zero] at hb
    rw [Nat.add_zero, qx_self h3, qx_self h12, h3, mx_at hB hT (by omega), qc_bds, mx_le (qt_le256 hB p), qc_bds, hb, if_neg (by decide)]
  | m + 1, N + 1, p, I, L, hT, h10, ⟨hs, hsa⟩, h3, h12, h1, hN, hall, hb => by
    rw [fX12_letters_l18_s]
    unfold fX12_letters_b18 fX12_letters_b82
    have h0 := hall 0 (by omega)
    rw [Nat.add_zero] at h0
    have hd := qt_le_iff.mp h0
    have ih := fun v (hv : v = qt_wo b s (p + 1 - s)) => mx_let hB (s := s) m N (p + 1) (qc_u I 291 11 (nI (p + 1))) (qc_u L 291 12 v) (tpM_u hT (by decide) _) (by rw [qc_u_ne _ _ (Or.inr (by decide))]; exact h10) ⟨by omega, fun j hj => by
      by_cases y : j < p - s
      · exact hsa j y
      · rw [show s + j = p by omega]; exact h0⟩ (qc_u_at _ _ _ _) (by rw [qc_u_at]; exact hv) (by omega) (by omega) (fun j hj => by have := hall (j + 1) (by omega); rw [show p + 1 + j = p + (j + 1) by omega]; exact this) (by rw [show p + 1 + m = p + (m + 1) by omega]; exact hb)
    have h12s : ((12 : Int32) ≤ nI p - nI s) ↔ 12 ≤ p - s := by rw [qi_sub hs]; exact qi_le (a := 12) (by decide) (by omega)
    rw [h3, mx_at hB hT (by omega), qc_bds, mx_le (qt_le256 hB p), qc_bds, h0, if_pos rfl, h3, h10, qi_s1]
    by_cases z : 12 ≤ p - s
    · rw [if_pos (h12s.mpr z), ih (-1) (by unfold qt_wo; rw [if_neg (by omega)]), qc_uu, qc_uu, show p + 1 + m = p + (m + 1) by omega]
    · rw [if_neg (fun y => z (h12s.mp y)), mx_at hB hT (by omega), qc_bds, h3, h12, qi_s1]
      have hv : (((32 : Int64) * (qt_wo b s (p - s))) + (Int32.toInt64 (qt_i (b p)))) - (96 : Int64) = qt_wo b s (p + 1 - s) := by
        unfold qt_wo qt_i
        rw [if_pos (show p - s ≤ 12 by omega), if_pos (show p + 1 - s ≤ 12 by omega), if_neg (show ¬ b p = 256 by omega), nI_L (by omega), show (32 : Int64) = nL 32 by decide, show (96 : Int64) = nL 96 by decide, nL_mul, nL_add, show p + 1 - s = (p - s) + 1 by omega]
        have e : qt_wv b s (p - s + 1) = 32 * qt_wv b s (p - s) + (b (s + (p - s)) - 96) := rfl
        rw [e, show s + (p - s) = p by omega]
        have hw : qt_wv b s (p - s) < 32 ^ 11 := Nat.lt_of_lt_of_le (qt_wv_lt b s _ hsa) (Nat.pow_le_pow_right (by decide) (by omega))
        rw [nL_sub (by omega) (by omega)]
        congr 1
        omega
      rw [ih _ hv, qc_uu, qc_uu, show p + 1 + m = p + (m + 1) by omega]
/-- figures -/
def zF1 (w : qcW) (I : qTI) (L : qTL) (D : qTD) (R : qTR) (x1 : Int64) (x3 : Int32) : qcO Unit := qc_bd (fX12_byteAt w I L D R (I 291 11)) fun r15 I15 L15 D15 R15 => if r15 = (46 : Int32) then (qc_bd (fX12_isFigure w I15 L15 D15 R15 ((I15 291 11) + (1 : Int32))) fun r17 I17 L17 D17 R17 => if r17 = true then (fX12_figures_l139 w qcF ((qc_u I17 291 11 ((I17 291 11) + (1 : Int32))), L17, D17, R17, x1, x3, (0 : Int32))) else (fX12_figures_b97 w I17 L17 D17 R17 x1)) else (fX12_figures_b97 w I15 L15 D15 R15 x1)
theorem mx_dig {x c : Nat} (hx : x < 10 ^ 13) (hc : 48 ≤ c ∧ c ≤ 57) : ((((10 : Int64) * nL x) + (Int32.toInt64 (qt_i c))) - (48 : Int64)) = nL (10 * x + (c - 48)) := by
  unfold qt_i
  rw [if_neg (by omega), nI_L (by omega), show (10 : Int64) = nL 10 by decide, show (48 : Int64) = nL 48 by decide, nL_mul, nL_add, nL_sub (by omega) (by omega)]
  congr 1
  omega
theorem mx_cap {x : Nat} (hx : x < 10 ^ 13) : (lg_cmp (nL x) (99999999999 : Int64)) ≤ 0 ↔ x ≤ 99999999999 := by
  rw [lg_cmp_le, show (99999999999 : Int64) = nL 99999999999 by decide, nL_le (by omega) (by decide)]
theorem mx_fig1 (hB : qt_B b len) : ∀ (m N p f x v : Nat) (I : qTI), tpM b len I → I 291 11 = nI p → p + m ≤ 1000 → m < N → (∀ j, j < m → qt_fi (b (p + j)) = true) → qt_fi (b (p + m)) = false → qt_rel x v → ∃ x', qt_rel x' (qt_dv b v p m) ∧ fX12_figures_l12 w N (I, L, D, R, nL x, nI f) = zF1 w (qc_u I 291 11 (nI (p + m))) L D R (nL x') (nI (f + m))
  | 0, N + 1, p, f, x, v, I, hT, h3, h1, _, _, hb, hx => by
    rw [Nat.add_zero] at hb
    refine ⟨x, hx, ?_⟩
    rw [fX12_figures_l12_s]
    unfold fX12_figures_b12
    rw [Nat.add_zero, qx_self h3, h3, mx_fi hB hT (by omega), qc_bds, hb, if_neg (by decide)]
    rfl
  | m + 1, N + 1, p, f, x, v, I, hT, h3, h1, hN, hall, hb, hx => by
    have h0 := hall 0 (by omega)
    rw [Nat.add_zero] at h0
    have hd := qt_fi_iff.mp h0
    have hr := qt_rel_s (d := b p - 48) hx (by omega)
    obtain ⟨x', k1, k2⟩ := mx_fig1 hB m N (p + 1) (f + 1) _ _ (qc_u I 291 11 (nI (p + 1))) (tpM_u hT (by decide) _) (qc_u_at _ _ _ _) (by omega) (by omega) (fun j hj => by have := hall (j + 1) (by omega); rw [show p + 1 + j = p + (j + 1) by omega]; exact this) (by rw [show p + 1 + m = p + (m + 1) by omega]; exact hb) hr
    rw [qt_dv_s] at k1
    refine ⟨x', k1, ?_⟩
    rw [qc_uu, show p + 1 + m = p + (m + 1) by omega, show f + 1 + m = f + (m + 1) by omega] at k2
    rw [← k2, fX12_figures_l12_s]
    unfold fX12_figures_b12 fX12_figures_b54
    rw [h3, mx_fi hB hT (by omega), qc_bds, h0, if_pos rfl, show nI f + 1 = nI (f + 1) from qi_s1 f]
    by_cases z : x ≤ 99999999999
    · rw [if_pos ((mx_cap hx.1).mpr z), h3, mx_at hB hT (by omega), qc_bds, mx_dig hx.1 hd, h3, qi_s1, if_pos z]
    · rw [if_neg (fun y => z ((mx_cap hx.1).mp y)), h3, qi_s1, if_neg z]
theorem mx_fig2 (hB : qt_B b len) : ∀ (m N p f k x v : Nat) (I : qTI), tpM b len I → I 291 11 = nI p → p + m ≤ 1000 → m < N → (∀ j, j < m → qt_fi (b (p + j)) = true) → qt_fi (b (p + m)) = false → qt_rel x v → ∃ x', qt_rel x' (qt_dv b v p m) ∧ fX12_figures_l139 w N (I, L, D, R, nL x, nI f, nI k) = fX12_figures_l212 w qcF (qc_u (qc_u I 291 11 (nI (p + m))) 291 9 (3 : Int32), L, D, R, nL x', nI (f + m), nI (k + m), (4607182418800017408 : UInt64), (0 : Int32))
  | 0, N + 1, p, f, k, x, v, I, hT, h3, h1, _, _, hb, hx => by
    rw [Nat.add_zero] at hb
    refine ⟨x, hx, ?_⟩
    rw [fX12_figures_l139_s]
    unfold fX12_figures_b139
    rw [Nat.add_zero, qx_self h3, h3, mx_fi hB hT (by omega), qc_bds, hb, if_neg (by decide)]
    rfl
  | m + 1, N + 1, p, f, k, x, v, I, hT, h3, h1, hN, hall, hb, hx => by
    have h0 := hall 0 (by omega)
    rw [Nat.add_zero] at h0
    have hd := qt_fi_iff.mp h0
    have hr := qt_rel_s (d := b p - 48) hx (by omega)
    obtain ⟨x', k1, k2⟩ := mx_fig2 hB m N (p + 1) (f + 1) (k + 1) _ _ (qc_u I 291 11 (nI (p + 1))) (tpM_u hT (by decide) _) (qc_u_at _ _ _ _) (by omega) (by omega) (fun j hj => by have := hall (j + 1) (by omega); rw [show p + 1 + j = p + (j + 1) by omega]; exact this) (by rw [show p + 1 + m = p + (m + 1) by omega]; exact hb) hr
    rw [qt_dv_s] at k1
    refine ⟨x', k1, ?_⟩
    rw [qc_uu, show p + 1 + m = p + (m + 1) by omega, show f + 1 + m = f + (m + 1) by omega, show k + 1 + m = k + (m + 1) by omega] at k2
    rw [← k2, fX12_figures_l139_s]
    unfold fX12_figures_b139 fX12_figures_b181
    rw [h3, mx_fi hB hT (by omega), qc_bds, h0, if_pos rfl, show nI f + 1 = nI (f + 1) from qi_s1 f, show nI k + 1 = nI (k + 1) from qi_s1 k]
    by_cases z : x ≤ 99999999999
    · rw [if_pos ((mx_cap hx.1).mpr z), h3, mx_at hB hT (by omega), qc_bds, mx_dig hx.1 hd, h3, qi_s1, if_pos z]
    · rw [if_neg (fun y => z ((mx_cap hx.1).mp y)), h3, qi_s1, if_neg z]
theorem mx_by {n : Nat} (hn : n < 1000) (x1 : Int64) (x3 : Int32) : ∀ (m N i : Nat), i + m = min n 12 → m < N → fX12_figures_l212 w N (I, L, D, R, x1, x3, nI n, FP.l2d (nL (10 ^ i)), nI i) = fX12_figures_b240 w I L D R x1 x3 (FP.l2d (nL (10 ^ min n 12)))
  | 0, N + 1, i, h, _ => by
    rw [fX12_figures_l212_s]
    unfold fX12_figures_b212
    rw [← h, Nat.add_zero]
    by_cases z : n ≤ i
    · rw [if_pos ((qi_le (by omega) (by omega)).mpr z)]
    · rw [if_neg (fun y => z ((qi_le (by omega) (by omega)).mp y)), if_pos (show (12 : Int32) ≤ nI i from (qi_le (a := 12) (by decide) (by omega)).mpr (by omega))]
  | m + 1, N + 1, i, h, hN => by
    rw [fX12_figures_l212_s]
    unfold fX12_figures_b212
    rw [if_neg (fun y => by have := (qi_le (by omega) (by omega)).mp y; omega), if_neg (fun y => by have := (qi_le (a := 12) (by decide) (by omega)).mp y; omega), qt_by i (by omega), qt_byn (i + 1) (by omega), qc_gdt]
    rw [show nI i + 1 = nI (i + 1) from qi_s1 i]
    exact mx_by hn x1 x3 m N (i + 1) (by omega) (by omega)
/-- what a token may change -/
def frM (I I' : qTI) : Prop := ∀ a k, ¬ (a = 291 ∧ (k = 9 ∨ k = 10 ∨ k = 11 ∨ k = 13 ∨ k = 15 ∨ k = 16)) → I' a k = I a k
theorem frM_rf (I : qTI) : frM I I := fun _ _ _ => rfl
theorem frM_tr {I1 I2 : qTI} (h : frM I I1) (g : frM I1 I2) : frM I I2 := fun a k z => (g a k z).trans (h a k z)
theorem frM_u {k : Nat} (hk : k = 9 ∨ k = 10 ∨ k = 11 ∨ k = 13 ∨ k = 15 ∨ k = 16) (v : Int32) : frM I (qc_u I 291 k v) := fun a j z => qc_u_ne _ _ (by
  by_cases y : a = 291
  · right
    intro e
    exact z ⟨y, by rw [e]; exact hk⟩
  · exact Or.inl y)
theorem mx_fail (h : I 291 15 = 0) (k a : Int32) : fX12_fail w I L D R k a = some ((), qc_u (qc_u I 291 15 k) 291 16 a, L, D, R) := by
  unfold fX12_fail
  rw [if_pos h]
theorem mx_fail0 (h : I 291 15 ≠ 0) (k a : Int32) : fX12_fail w I L D R k a = some ((), I, L, D, R) := by
  unfold fX12_fail
  rw [if_neg h]
end
