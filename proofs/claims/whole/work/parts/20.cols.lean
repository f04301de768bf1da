/-! the class QueryClasses: its columns and its tape -/
set_option maxRecDepth 100000 in
set_option maxHeartbeats 4000000 in
theorem sX1_isColumn (w : qcW) (I : Nat → Nat → Int32) (L : Nat → Nat → Int64) (D : Nat → Nat → UInt64) (R : Nat → Nat → Nat) (c : Int32) : qc_V 0 0 0 qmX1_isColumn [.int c] w (I, L, D, R) (qc_eq (some (.int (qc_b (qc_inb c 10)))) w (I, L, D, R)) := by
  refine qc_V.of rfl rfl (Nat.le_of_ble_eq_true rfl) (lv := [(0, .int c)]) rfl ?_
  refine qc_iload_n (qc_at qkX1_isColumn 0 rfl) rfl <| ?_
  refine qc_if_lt (qc_at qkX1_isColumn 1 rfl) (fun h1 => ?_) (fun h1 => ?_)
  · refine qc_iconst (qc_at qkX1_isColumn 7 rfl) <| ?_
    refine qc_zret (qc_at qkX1_isColumn 8 rfl) rfl (by first | exact qc_b01 _ | decide) (Nat.le_refl _) (Nat.le_refl _) ?_
    refine ⟨?_, rfl, rfl⟩
    first | (rw [qc_ib0 (by simp only [Int32.lt_iff_toInt_lt, Int32.le_iff_toInt_le, Int32.reduceToInt] at *; omega)]; rfl) | (rw [qc_ib1 (by simp only [Int32.lt_iff_toInt_lt, Int32.le_iff_toInt_le, Int32.reduceToInt] at *; omega) (by simp only [Int32.lt_iff_toInt_lt, Int32.le_iff_toInt_le, Int32.reduceToInt] at *; omega)]; rfl)
  · refine qc_iload_n (qc_at qkX1_isColumn 2 rfl) rfl <| qc_bipush (qc_at qkX1_isColumn 3 rfl) <| ?_
    refine qc_icmp_ge (qc_at qkX1_isColumn 4 rfl) (fun h2 => ?_) (fun h2 => ?_)
    · refine qc_iconst (qc_at qkX1_isColumn 7 rfl) <| ?_
      refine qc_zret (qc_at qkX1_isColumn 8 rfl) rfl (by first | exact qc_b01 _ | decide) (Nat.le_refl _) (Nat.le_refl _) ?_
      refine ⟨?_, rfl, rfl⟩
      first | (rw [qc_ib0 (by simp only [Int32.lt_iff_toInt_lt, Int32.le_iff_toInt_le, Int32.reduceToInt] at *; omega)]; rfl) | (rw [qc_ib1 (by simp only [Int32.lt_iff_toInt_lt, Int32.le_iff_toInt_le, Int32.reduceToInt] at *; omega) (by simp only [Int32.lt_iff_toInt_lt, Int32.le_iff_toInt_le, Int32.reduceToInt] at *; omega)]; rfl)
    · refine qc_iconst (qc_at qkX1_isColumn 5 rfl) <| qc_goto (qc_at qkX1_isColumn 6 rfl) <| ?_
      refine qc_zret (qc_at qkX1_isColumn 8 rfl) rfl (by first | exact qc_b01 _ | decide) (Nat.le_refl _) (Nat.le_refl _) ?_
      refine ⟨?_, rfl, rfl⟩
      first | (rw [qc_ib0 (by simp only [Int32.lt_iff_toInt_lt, Int32.le_iff_toInt_le, Int32.reduceToInt] at *; omega)]; rfl) | (rw [qc_ib1 (by simp only [Int32.lt_iff_toInt_lt, Int32.le_iff_toInt_le, Int32.reduceToInt] at *; omega) (by simp only [Int32.lt_iff_toInt_lt, Int32.le_iff_toInt_le, Int32.reduceToInt] at *; omega)]; rfl)
set_option maxRecDepth 100000 in
set_option maxHeartbeats 4000000 in
theorem sX1_isLane (w : qcW) (I : Nat → Nat → Int32) (L : Nat → Nat → Int64) (D : Nat → Nat → UInt64) (R : Nat → Nat → Nat) (c : Int32) : qc_V 0 0 0 qmX1_isLane [.int c] w (I, L, D, R) (qc_eq (some (.int (qc_b (qc_inb c 8)))) w (I, L, D, R)) := by
  refine qc_V.of rfl rfl (Nat.le_of_ble_eq_true rfl) (lv := [(0, .int c)]) rfl ?_
  refine qc_iload_n (qc_at qkX1_isLane 0 rfl) rfl <| ?_
  refine qc_if_lt (qc_at qkX1_isLane 1 rfl) (fun h1 => ?_) (fun h1 => ?_)
  · refine qc_iconst (qc_at qkX1_isLane 7 rfl) <| ?_
    refine qc_zret (qc_at qkX1_isLane 8 rfl) rfl (by first | exact qc_b01 _ | decide) (Nat.le_refl _) (Nat.le_refl _) ?_
    refine ⟨?_, rfl, rfl⟩
    first | (rw [qc_ib0 (by simp only [Int32.lt_iff_toInt_lt, Int32.le_iff_toInt_le, Int32.reduceToInt] at *; omega)]; rfl) | (rw [qc_ib1 (by simp only [Int32.lt_iff_toInt_lt, Int32.le_iff_toInt_le, Int32.reduceToInt] at *; omega) (by simp only [Int32.lt_iff_toInt_lt, Int32.le_iff_toInt_le, Int32.reduceToInt] at *; omega)]; rfl)
  · refine qc_iload_n (qc_at qkX1_isLane 2 rfl) rfl <| qc_bipush (qc_at qkX1_isLane 3 rfl) <| ?_
    refine qc_icmp_ge (qc_at qkX1_isLane 4 rfl) (fun h2 => ?_) (fun h2 => ?_)
    · refine qc_iconst (qc_at qkX1_isLane 7 rfl) <| ?_
      refine qc_zret (qc_at qkX1_isLane 8 rfl) rfl (by first | exact qc_b01 _ | decide) (Nat.le_refl _) (Nat.le_refl _) ?_
      refine ⟨?_, rfl, rfl⟩
      first | (rw [qc_ib0 (by simp only [Int32.lt_iff_toInt_lt, Int32.le_iff_toInt_le, Int32.reduceToInt] at *; omega)]; rfl) | (rw [qc_ib1 (by simp only [Int32.lt_iff_toInt_lt, Int32.le_iff_toInt_le, Int32.reduceToInt] at *; omega) (by simp only [Int32.lt_iff_toInt_lt, Int32.le_iff_toInt_le, Int32.reduceToInt] at *; omega)]; rfl)
    · refine qc_iconst (qc_at qkX1_isLane 5 rfl) <| qc_goto (qc_at qkX1_isLane 6 rfl) <| ?_
      refine qc_zret (qc_at qkX1_isLane 8 rfl) rfl (by first | exact qc_b01 _ | decide) (Nat.le_refl _) (Nat.le_refl _) ?_
      refine ⟨?_, rfl, rfl⟩
      first | (rw [qc_ib0 (by simp only [Int32.lt_iff_toInt_lt, Int32.le_iff_toInt_le, Int32.reduceToInt] at *; omega)]; rfl) | (rw [qc_ib1 (by simp only [Int32.lt_iff_toInt_lt, Int32.le_iff_toInt_le, Int32.reduceToInt] at *; omega) (by simp only [Int32.lt_iff_toInt_lt, Int32.le_iff_toInt_le, Int32.reduceToInt] at *; omega)]; rfl)
def qx_us (I : Nat → Nat → Int32) (a : Nat) (r : Int32) : Nat → Bool := fun c => decide (I a c = r)
set_option maxRecDepth 100000 in
set_option maxHeartbeats 4000000 in
theorem lX1_isUsed (w : qcW) (I : Nat → Nat → Int32) (L : Nat → Nat → Int64) (D : Nat → Nat → UInt64) (R : Nat → Nat → Nat) (hn : qcNF ≤ w.1) (hR : qc_FR R) (row : Int32) : ∀ (k : Nat) (j : Nat) (x : Int32) (hx : x = nI j) (hj : j ≤ 10) (hk : 10 - j < k) (hi : ∀ d, d < j → qx_us I 258 row d = false), qc_X (qc_rm 0 0 0) qmX1_isUsed (qc_QM 0 0 (qc_eq (some (.int (qc_b (decide (qc_ls (qx_us I 258 row) 10 < 10))))) w (I, L, D, R))) 0 0 w (2, [(0, .ref 257), (1, .int row), (2, .int x)], [], I, L, D, R) := by
  intro k
  induction k with
  | zero => intro j x hx hj hk; omega
  | succ k ih =>
    intro j x hx hj hk hi
    have tx := qc_ti hx (by omega)
    refine qc_iload_n (qc_at qkX1_isUsed 2 rfl) rfl <| qc_bipush (qc_at qkX1_isUsed 3 rfl) <| ?_
    refine qc_icmp_ge (qc_at qkX1_isUsed 4 rfl) (fun h1 => ?_) (fun h1 => ?_)
    · refine qc_iconst (qc_at qkX1_isUsed 15 rfl) <| ?_
      refine qc_zret (qc_at qkX1_isUsed 16 rfl) rfl (by first | exact qc_b01 _ | decide) (Nat.le_refl _) (Nat.le_refl _) ?_
      have e10 : j = 10 := by simp only [Int32.lt_iff_toInt_lt, Int32.le_iff_toInt_le, Int32.reduceToInt] at *; omega
      refine ⟨?_, rfl, rfl⟩
      rw [qc_ls_eq (j := j) (by omega) hi (Or.inl e10), e10]; rfl
    · refine qc_aload_n (qc_at qkX1_isUsed 5 rfl) rfl <| qc_gR (qc_at qkX1_isUsed 6 rfl) hn rfl (qfr_257_0 hR) rfl <| qc_iload_n (qc_at qkX1_isUsed 7 rfl) rfl <| qc_iald 10 (qc_at qkX1_isUsed 8 rfl) hn rfl (qc_inI (by simp only [Int32.lt_iff_toInt_lt, Int32.le_iff_toInt_le, Int32.reduceToInt] at *; omega) (by simp only [Int32.lt_iff_toInt_lt, Int32.le_iff_toInt_le, Int32.reduceToInt] at *; omega)) <| qc_iload_n (qc_at qkX1_isUsed 9 rfl) rfl <| ?_
      refine qc_icmp_ne (qc_at qkX1_isUsed 10 rfl) (fun h2 => ?_) (fun h2 => ?_)
      · refine qc_iinc (lv' := [(2, _), (0, _), (1, _)]) (qc_at qkX1_isUsed 13 rfl) rfl rfl rfl <| qc_goto (qc_at qkX1_isUsed 14 rfl) <| ?_
        refine qc_sub [1, 2, 0] rfl ?_
        refine ih (j + 1) _ (qc_s1x hx) (by simp only [Int32.lt_iff_toInt_lt, Int32.le_iff_toInt_le, Int32.reduceToInt] at *; omega) (by simp only [Int32.lt_iff_toInt_lt, Int32.le_iff_toInt_le, Int32.reduceToInt] at *; omega) (fun d hd => ?_)
        by_cases e : d = j
        · subst e; unfold qx_us; simp only [qc_tc1 hx (by omega)] at *; simpa using h2
        · exact hi d (by omega)
      · refine qc_iconst (qc_at qkX1_isUsed 11 rfl) <| ?_
        refine qc_zret (qc_at qkX1_isUsed 12 rfl) rfl (by first | exact qc_b01 _ | decide) (Nat.le_refl _) (Nat.le_refl _) ?_
        have h10 : j < 10 := by simp only [Int32.lt_iff_toInt_lt, Int32.le_iff_toInt_le, Int32.reduceToInt] at *; omega
        refine ⟨?_, rfl, rfl⟩
        rw [qc_ls_eq (j := j) (by omega) hi (Or.inr (by unfold qx_us; rw [qc_tc1 hx (by omega)] at h2; exact decide_eq_true h2)), decide_eq_true h10]; rfl
set_option maxRecDepth 100000 in
set_option maxHeartbeats 4000000 in
theorem sX1_isUsed (w : qcW) (I : Nat → Nat → Int32) (L : Nat → Nat → Int64) (D : Nat → Nat → UInt64) (R : Nat → Nat → Nat) (hn : qcNF ≤ w.1) (hR : qc_FR R) (row : Int32) : qc_V 0 0 0 qmX1_isUsed [.ref 257, .int row] w (I, L, D, R) (qc_eq (some (.int (qc_b (decide (qc_ls (qx_us I 258 row) 10 < 10))))) w (I, L, D, R)) := by
  refine qc_V.of rfl rfl (Nat.le_of_ble_eq_true rfl) (lv := [(0, .ref 257), (1, .int row)]) rfl ?_
  refine qc_iconst (qc_at qkX1_isUsed 0 rfl) <| qc_istore_n (lv' := [(2, _), (0, _), (1, _)]) (qc_at qkX1_isUsed 1 rfl) rfl rfl <| ?_
  exact qc_sub [1, 2, 0] rfl (lX1_isUsed w I L D R hn hR row 11 0 0 rfl (by omega) (by omega) (fun d hd => absurd hd (Nat.not_lt_zero d)))
/-- the least row that no column has -/
def qx_fr (I : Nat → Nat → Int32) (a n : Nat) : Nat := qc_ls (fun r => decide (10 ≤ qc_ls (qx_us I a (nI r)) 10)) n
set_option maxRecDepth 100000 in
set_option maxHeartbeats 4000000 in
theorem lX1_freeRow (w : qcW) (I : Nat → Nat → Int32) (L : Nat → Nat → Int64) (D : Nat → Nat → UInt64) (R : Nat → Nat → Nat) (hn : qcNF ≤ w.1) (hR : qc_FR R) (hf : qx_fr I 258 10 < 10) : ∀ (k : Nat) (j : Nat) (x : Int32) (hx : x = nI j) (hj : j ≤ 10) (hk : 10 - j < k) (hi : ∀ d, d < j → decide (10 ≤ qc_ls (qx_us I 258 (nI d)) 10) = false), qc_X (qc_rm 1 0 0) qmX1_freeRow (qc_QM 0 0 (qc_eq (some (.int (nI (qx_fr I 258 10)))) w (I, L, D, R))) 0 0 w (2, [(0, .ref 257), (1, .int x)], [], I, L, D, R) := by
  intro k
  induction k with
  | zero => intro j x hx hj hk; omega
  | succ k ih =>
    intro j x hx hj hk hi
    have tx := qc_ti hx (by omega)
    refine qc_iload_n (qc_at qkX1_freeRow 2 rfl) rfl <| qc_bipush (qc_at qkX1_freeRow 3 rfl) <| ?_
    refine qc_icmp_ge (qc_at qkX1_freeRow 4 rfl) (fun h1 => ?_) (fun h1 => ?_)
    · refine qc_iconst (qc_at qkX1_freeRow 13 rfl) <| ?_
      refine qc_iret (qc_at qkX1_freeRow 14 rfl) rfl (Nat.le_refl _) (Nat.le_refl _) ?_
      exfalso
      have e10 : j = 10 := by simp only [Int32.lt_iff_toInt_lt, Int32.le_iff_toInt_le, Int32.reduceToInt] at *; omega
      unfold qx_fr at hf
      rw [qc_ls_eq (j := j) (by omega) hi (Or.inl e10)] at hf
      omega
    · have h10 : j < 10 := by simp only [Int32.lt_iff_toInt_lt, Int32.le_iff_toInt_le, Int32.reduceToInt] at *; omega
      refine qc_aload_n (qc_at qkX1_freeRow 5 rfl) rfl <| qc_iload_n (qc_at qkX1_freeRow 6 rfl) rfl <| qc_cVv (ci := 1) (a0 := 257) (qc_at qkX1_freeRow 7 rfl) ql_1_47 qfX1_isUsed (qc_kf hn rfl) rfl (sX1_isUsed _ _ _ _ _ hn hR _) rfl rfl (by decide) ⟨by decide, by decide⟩ ⟨by decide, by decide⟩ <| ?_
      refine qc_ifB_ne (qc_at qkX1_freeRow 8 rfl) (fun h2 => ?_) (fun h2 => ?_)
      · refine qc_iinc (lv' := [(1, _), (0, _)]) (qc_at qkX1_freeRow 11 rfl) rfl rfl rfl <| qc_goto (qc_at qkX1_freeRow 12 rfl) <| ?_
        refine qc_sub [1, 0] rfl ?_
        refine ih (j + 1) _ (qc_s1x hx) (by omega) (by omega) (fun d hd => ?_)
        by_cases e : d = j
        · subst e; rw [hx] at h2; have := of_decide_eq_true h2; exact decide_eq_false (by omega)
        · exact hi d (by omega)
      · refine qc_iload_n (qc_at qkX1_freeRow 9 rfl) rfl <| ?_
        refine qc_iret (qc_at qkX1_freeRow 10 rfl) rfl (Nat.le_refl _) (Nat.le_refl _) ?_
        refine ⟨?_, rfl, rfl⟩
        rw [hx] at h2
        have h3 := of_decide_eq_false h2
        unfold qx_fr
        rw [qc_ls_eq (j := j) (by omega) hi (Or.inr (decide_eq_true (by omega))), hx]
set_option maxRecDepth 100000 in
set_option maxHeartbeats 4000000 in
theorem sX1_freeRow (w : qcW) (I : Nat → Nat → Int32) (L : Nat → Nat → Int64) (D : Nat → Nat → UInt64) (R : Nat → Nat → Nat) (hn : qcNF ≤ w.1) (hR : qc_FR R) (hf : qx_fr I 258 10 < 10) : qc_V 1 0 0 qmX1_freeRow [.ref 257] w (I, L, D, R) (qc_eq (some (.int (nI (qx_fr I 258 10)))) w (I, L, D, R)) := by
  refine qc_V.of rfl rfl (Nat.le_of_ble_eq_true rfl) (lv := [(0, .ref 257)]) rfl ?_
  refine qc_iconst (qc_at qkX1_freeRow 0 rfl) <| qc_istore_n (lv' := [(1, _), (0, _)]) (qc_at qkX1_freeRow 1 rfl) rfl rfl <| ?_
  exact qc_sub [1, 0] rfl (lX1_freeRow w I L D R hn hR hf 11 0 0 rfl (by omega) (by omega) (fun d hd => absurd hd (Nat.not_lt_zero d)))
