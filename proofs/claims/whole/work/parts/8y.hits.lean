/-! hits in their order -/
def qy_in (st : UInt64 → UInt64 → Bool) : Nat → (Nat → Int32) → (Nat → UInt64) → Int32 → UInt64 → (Nat → Int32) × (Nat → UInt64)
  | 0, f, d, a, v => (qi_up f 0 a, qi_up d 0 v)
  | j + 1, f, d, a, v => if st v (d j) = true then (qi_up f (j + 1) a, qi_up d (j + 1) v) else qy_in st j (qi_up f (j + 1) (f j)) (qi_up d (j + 1) (d j)) a v
def qy_all (st : UInt64 → UInt64 → Bool) : Nat → (Nat → Int32) → (Nat → UInt64) → (Nat → Int32) × (Nat → UInt64)
  | 0, f, d => (f, d)
  | n + 1, f, d => qy_in st n (qy_all st n f d).1 (qy_all st n f d).2 (f n) (d n)
theorem qy_in_hi (st : UInt64 → UInt64 → Bool) : ∀ (j : Nat) (f : Nat → Int32) (d : Nat → UInt64) (a : Int32) (v : UInt64) (k : Nat), j < k → (qy_in st j f d a v).1 k = f k ∧ (qy_in st j f d a v).2 k = d k
  | 0, f, d, a, v, k, h => ⟨qi_up_ne _ _ (by omega), qi_up_ne _ _ (by omega)⟩
  | j + 1, f, d, a, v, k, h => by
    unfold qy_in
    split
    · exact ⟨qi_up_ne _ _ (by omega), qi_up_ne _ _ (by omega)⟩
    · obtain ⟨h1, h2⟩ := qy_in_hi st j (qi_up f (j + 1) (f j)) (qi_up d (j + 1) (d j)) a v k (by omega)
      exact ⟨h1.trans (qi_up_ne _ _ (by omega)), h2.trans (qi_up_ne _ _ (by omega))⟩
theorem qy_in_co (st : UInt64 → UInt64 → Bool) : ∀ (j : Nat) (f f' : Nat → Int32) (d d' : Nat → UInt64) (a : Int32) (v : UInt64), (∀ k, k < j → f' k = f k ∧ d' k = d k) → ∀ k, k ≤ j → (qy_in st j f' d' a v).1 k = (qy_in st j f d a v).1 k ∧ (qy_in st j f' d' a v).2 k = (qy_in st j f d a v).2 k
  | 0, f, f', d, d', a, v, _, k, hk => by
    have : k = 0 := by omega
    subst this
    show qi_up f' 0 a 0 = qi_up f 0 a 0 ∧ qi_up d' 0 v 0 = qi_up d 0 v 0
    rw [qi_up_at, qi_up_at, qi_up_at, qi_up_at]
    exact ⟨rfl, rfl⟩
  | j + 1, f, f', d, d', a, v, h, k, hk => by
    obtain ⟨h1, h2⟩ := h j (by omega)
    unfold qy_in
    rw [h1, h2]
    split
    · by_cases q : k = j + 1
      · subst q
        exact ⟨(qi_up_at _ _ _).trans (qi_up_at _ _ _).symm, (qi_up_at _ _ _).trans (qi_up_at _ _ _).symm⟩
      · obtain ⟨h3, h4⟩ := h k (by omega)
        exact ⟨(qi_up_ne _ _ q).trans (h3.trans (qi_up_ne _ _ q).symm), (qi_up_ne _ _ q).trans (h4.trans (qi_up_ne _ _ q).symm)⟩
    · by_cases q : k = j + 1
      · subst q
        obtain ⟨e1, e2⟩ := qy_in_hi st j (qi_up f' (j + 1) (f j)) (qi_up d' (j + 1) (d j)) a v (j + 1) (by omega)
        obtain ⟨e3, e4⟩ := qy_in_hi st j (qi_up f (j + 1) (f j)) (qi_up d (j + 1) (d j)) a v (j + 1) (by omega)
        rw [e1, e2, e3, e4, qi_up_at, qi_up_at, qi_up_at, qi_up_at]
        exact ⟨rfl, rfl⟩
      · exact qy_in_co st j _ _ _ _ a v (fun i hi => by
          obtain ⟨h3, h4⟩ := h i (by omega)
          exact ⟨(qi_up_ne _ _ (by omega)).trans (h3.trans (qi_up_ne _ _ (by omega)).symm), (qi_up_ne _ _ (by omega)).trans (h4.trans (qi_up_ne _ _ (by omega)).symm)⟩) k (by omega)
theorem qy_in_P (st : UInt64 → UInt64 → Bool) (P : Int32 → UInt64 → Prop) : ∀ (j : Nat) (f : Nat → Int32) (d : Nat → UInt64) (a : Int32) (v : UInt64), (∀ k, k < j → P (f k) (d k)) → P a v → ∀ k, k ≤ j → P ((qy_in st j f d a v).1 k) ((qy_in st j f d a v).2 k)
  | 0, f, d, a, v, _, hv, k, hk => by
    have : k = 0 := by omega
    subst this
    show P (qi_up f 0 a 0) (qi_up d 0 v 0)
    rw [qi_up_at, qi_up_at]
    exact hv
  | j + 1, f, d, a, v, h, hv, k, hk => by
    unfold qy_in
    split
    · by_cases q : k = j + 1
      · subst q
        show P (qi_up f (j + 1) a (j + 1)) (qi_up d (j + 1) v (j + 1))
        rw [qi_up_at, qi_up_at]
        exact hv
      · show P (qi_up f (j + 1) a k) (qi_up d (j + 1) v k)
        rw [qi_up_ne _ _ q, qi_up_ne _ _ q]
        exact h k (by omega)
    · by_cases q : k = j + 1
      · subst q
        obtain ⟨e1, e2⟩ := qy_in_hi st j (qi_up f (j + 1) (f j)) (qi_up d (j + 1) (d j)) a v (j + 1) (by omega)
        rw [e1, e2, qi_up_at, qi_up_at]
        exact h j (by omega)
      · exact qy_in_P st P j _ _ a v (fun i hi => by
          rw [qi_up_ne _ _ (by omega), qi_up_ne _ _ (by omega)]
          exact h i (by omega)) hv k (by omega)
theorem qy_all_hi (st : UInt64 → UInt64 → Bool) (f : Nat → Int32) (d : Nat → UInt64) : ∀ (n k : Nat), n ≤ k → (qy_all st n f d).1 k = f k ∧ (qy_all st n f d).2 k = d k
  | 0, k, _ => ⟨rfl, rfl⟩
  | n + 1, k, h => by
    unfold qy_all
    obtain ⟨h1, h2⟩ := qy_in_hi st n (qy_all st n f d).1 (qy_all st n f d).2 (f n) (d n) k (by omega)
    obtain ⟨h3, h4⟩ := qy_all_hi st f d n k (by omega)
    exact ⟨h1.trans h3, h2.trans h4⟩
theorem qy_all_co (st : UInt64 → UInt64 → Bool) (f f' : Nat → Int32) (d d' : Nat → UInt64) : ∀ (n : Nat), (∀ k, k < n → f' k = f k ∧ d' k = d k) → ∀ k, k < n → (qy_all st n f' d').1 k = (qy_all st n f d).1 k ∧ (qy_all st n f' d').2 k = (qy_all st n f d).2 k
  | 0, _, k, hk => by omega
  | n + 1, h, k, hk => by
    unfold qy_all
    obtain ⟨h1, h2⟩ := h n (by omega)
    rw [h1, h2]
    exact qy_in_co st n _ _ _ _ _ _ (fun i hi => qy_all_co st f f' d d' n (fun j hj => h j (by omega)) i hi) k (by omega)
theorem qy_all_P (st : UInt64 → UInt64 → Bool) (P : Int32 → UInt64 → Prop) (f : Nat → Int32) (d : Nat → UInt64) : ∀ (n : Nat), (∀ k, k < n → P (f k) (d k)) → ∀ k, k < n → P ((qy_all st n f d).1 k) ((qy_all st n f d).2 k)
  | 0, _, k, hk => by omega
  | n + 1, h, k, hk => by
    unfold qy_all
    exact qy_in_P st P n _ _ _ _ (fun i hi => qy_all_P st P f d n (fun j hj => h j (by omega)) i hi) (h n (by omega)) k (by omega)
theorem qy_all_id (f : Nat → Int32) (d : Nat → UInt64) : ∀ n, qy_all (fun _ _ => true) n f d = (f, d)
  | 0 => rfl
  | n + 1 => by
    unfold qy_all
    rw [qy_all_id f d n]
    cases n with
    | zero => exact congr (congrArg Prod.mk (qi_up_self f 0)) (qi_up_self d 0)
    | succ m => exact congr (congrArg Prod.mk (qi_up_self f (m + 1))) (qi_up_self d (m + 1))
/-- the order of a query: 1 from the least, -1 from the greatest, 0 none -/
def qy_st (x : Int32) (v u : UInt64) : Bool := if x = 1 then decide (¬ qk v < qk u) else if x = -1 then decide (¬ qk u < qk v) else true
theorem qy_st_1 (v u : UInt64) : qy_st 1 v u = decide (¬ qk v < qk u) := rfl
theorem qy_st_m (v u : UInt64) : qy_st (-1) v u = decide (¬ qk u < qk v) := rfl
theorem qy_st_0 (v u : UInt64) : qy_st 0 v u = true := rfl
section
variable {w : qcW} {I : qTI} {L : qTL} {D : qTD} {R : qTR}
theorem cx_ord {x : Int32} (hx : x = 1 ∨ x = -1 ∨ x = 0) (v u : UInt64) : (0 ≤ x * (if qk v < qk u then (-1 : Int32) else if qk u < qk v then 1 else 0)) ↔ qy_st x v u = true := by
  rcases hx with rfl | rfl | rfl
  · rw [qy_st_1, decide_eq_true_iff]
    by_cases h : qk v < qk u
    · simp only [h, if_true, not_true, iff_false]
      decide
    · simp only [h, if_false, not_false_iff, iff_true]
      split <;> decide
  · rw [qy_st_m, decide_eq_true_iff]
    by_cases h : qk u < qk v
    · have h2 : ¬ qk v < qk u := by omega
      simp only [h, h2, if_true, if_false, not_true, iff_false]
      decide
    · simp only [h, if_false, not_false_iff, iff_true]
      split <;> decide
  · rw [qy_st_0]
    simp only [Int32.zero_mul, iff_true]
    exact Int32.le_refl _
theorem qy_m1 (j : Nat) : nI (j + 1) + -1 = nI j := by rw [← Int32.sub_eq_add_neg]; exact qi_d1 j
theorem qy_n0 {j : Nat} (h : j < 100) : ¬ nI (j + 1) ≤ 0 := fun z => by have := (qi_le (b := 0) (by omega) (by decide)).mp z; omega
theorem cx_b90 {f : Nat → Int32} {d : Nat → UInt64} {a : Int32} {v : UInt64} {j : Nat} (hj : j < 16) : fX3_insert_b90 w (qi_rr I 281 f) L (qi_rr D 282 d) R a v (nI j) = some ((), qc_u (qi_rr I 281 (qi_up f j a)) 280 5 (I 280 5 + 1), L, qi_rr D 282 (qi_up d j v), R) := by
  unfold fX3_insert_b90
  rw [qi_inbN hj (by decide), qc_gdt, qc_gdt, nI_clamp (by omega), qi_rr_u, qi_rr_u, qi_rr_off _ _ (show 280 ≠ 281 by decide)]
theorem cx_ins {x : Int32} (hx : x = 1 ∨ x = -1 ∨ x = 0) (a : Int32) (v : UInt64) (hv : qf_N v) : ∀ (N j : Nat) (f : Nat → Int32) (d : Nat → UInt64), j < N → j < 16 → (∀ k, k < j → qf_N (d k)) → fX3_insert_l22 w N (qi_rr I 281 f, L, qi_rr D 282 d, R, a, v, x, nI j, nI j) = some ((), qc_u (qi_rr I 281 (qy_in (qy_st x) j f d a v).1) 280 5 (I 280 5 + 1), L, qi_rr D 282 (qy_in (qy_st x) j f d a v).2, R)
  | 0, j, f, d, h1, _, _ => by omega
  | N + 1, 0, f, d, h1, h2, h3 => by
    rw [fX3_insert_l22_s]
    unfold fX3_insert_b22
    rw [if_pos (show nI 0 ≤ 0 by decide), cx_b90 h2]
    rfl
  | N + 1, j + 1, f, d, h1, h2, h3 => by
    rw [fX3_insert_l22_s]
    unfold fX3_insert_b22 qy_in
    rw [if_neg (qy_n0 (by omega)), qi_d1, qi_inbN (show j < 16 by omega) (by decide), qc_gdt, nI_clamp (by omega), qi_rr_on, fx_compared hv (h3 j (by omega)), qc_bds]
    by_cases hs : qy_st x v (d j) = true
    · rw [if_pos ((cx_ord hx v (d j)).mpr hs), if_pos hs, cx_b90 h2]
    · rw [if_neg (fun z => hs ((cx_ord hx v (d j)).mp z)), if_neg hs, qc_gdt, qi_inbN h2 (by decide), qc_gdt, qc_gdt, qc_gdt, nI_clamp (by omega), qi_rr_on, qi_rr_on, qi_rr_u, qi_rr_u, qy_m1]
      exact cx_ins hx a v hv N j _ _ (by omega) (by omega) (fun k hk => by rw [qi_up_ne _ _ (by omega)]; exact h3 k (by omega))
theorem mx_ins {x : Int32} {x1 : Int32} (hx : x = 1 ∧ x1 = 0 ∨ x = -1 ∧ x1 = 1) (k21 : qTI × qTL × qTD × qTR × Int32 × Int32 → qcO Unit) (x2 a : Int32) (v : UInt64) (hv : qf_N v) : ∀ (N j : Nat) (f : Nat → Int32) (d : Nat → UInt64), j < N → j < 16 → (∀ k, k < j → qf_N (d k)) → fX12_sorts_l47 w k21 N (qi_rr I 333 f, L, qi_rr D 334 d, R, x1, x2, a, v, nI j) = k21 (qi_rr I 333 (qy_in (qy_st x) j f d a v).1, L, qi_rr D 334 (qy_in (qy_st x) j f d a v).2, R, x1, x2 + 1)
  | 0, j, f, d, h1, _, _ => by omega
  | N + 1, 0, f, d, h1, h2, h3 => by
    rw [fX12_sorts_l47_s]
    unfold fX12_sorts_b47 fX12_sorts_b127
    rw [if_pos (show nI 0 ≤ 0 by decide), qi_inbN h2 (by decide), qc_gdt, qc_gdt, nI_clamp (by omega), qi_rr_u, qi_rr_u]
    rfl
  | N + 1, j + 1, f, d, h1, h2, h3 => by
    have ih := mx_ins hx k21 x2 a v hv N j (qi_up f (j + 1) (f j)) (qi_up d (j + 1) (d j)) (by omega) (by omega) (fun k hk => by rw [qi_up_ne _ _ (by omega)]; exact h3 k (by omega))
    have hd := h3 j (by omega)
    rw [fX12_sorts_l47_s]
    unfold fX12_sorts_b47 fX12_sorts_b127 fX12_sorts_b89 qy_in
    rw [if_neg (qy_n0 (by omega))]
    simp only [qi_d1, qi_inbN (show j < 16 by omega) (by decide), qi_inbN h2 (by decide), qc_gdt, nI_clamp (show j < 2 ^ 31 by omega), nI_clamp (show j + 1 < 2 ^ 31 by omega), qi_rr_on, qi_rr_u, qy_m1, qk_ge hv hd, qk_le hv hd, ih]
    rcases hx with ⟨rfl, rfl⟩ | ⟨rfl, rfl⟩
    · rw [if_pos rfl, qy_st_1]
      by_cases h : qk v < qk (d j)
      · rw [if_neg (by omega), if_neg (by simp [h])]
      · rw [if_pos (by omega), if_pos (by simp [h])]
    · rw [if_neg (show ¬ (1 : Int32) = 0 by decide), qy_st_m]
      by_cases h : qk (d j) < qk v
      · rw [if_neg (by omega), if_neg (by simp [h])]
      · rw [if_pos (by omega), if_pos (by simp [h])]
end
