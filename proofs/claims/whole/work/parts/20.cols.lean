/-! the class QueryClasses: its columns and its tape -/
set_option maxRecDepth 100000 in
set_option maxHeartbeats 4000000 in
theorem sX1_isColumn (w : qcW) (I : Nat → Nat → Int32) (L : Nat → Nat → Int64) (D : Nat → Nat → UInt64) (R : Nat → Nat → Nat) (c : Int32) : qc_V 0 0 0 qmX1_isColumn [.int c] w (I, L, D, R) (qc_eq (some (.int (qc_b (qc_inb c 10)))) w (I, L, D, R)) := by
  refine qc_V.of rfl rfl (Nat.le_of_ble_eq_true rfl) (lv := [(0, .int c)]) rfl ?_
  refine qc_iload_n (qc_at qkX1_isColumn 0 rfl) rfl <| ?_
  refine qc_if_lt (qc_at qkX1_isColumn 1 rfl) (fun h1 => ?_) (fun h1 => ?_)
  · refine qc_iconst (qc_at qkX1_isColumn 7 rfl) <| ?_
    refine qc_zret (qc_at qkX1_isColumn 8 rfl) rfl (by first | exact qc_b01 _ | decide) (Nat.le_refl _) (Nat.le_refl _) ?_
    refine ⟨?_, rfl, rfl⟩
    first | (rw [qc_ib0 (by simp only [Int32.lt_iff_toInt_lt, Int32.le_iff_toInt_le, Int32.reduceToInt] at *; omega)]; rfl) | (rw [qc_ib1 (by simp only [Int32.lt_iff_toInt_lt, Int32.le_iff_toInt_le, Int32.reduceToInt] at *; omega) (by simp only [Int32.lt_iff_toInt_lt, Int32.le_iff_toInt_le, Int32.reduceToInt] at *; omega)]; rfl)
  · refine qc_iload_n (qc_at qkX1_isColumn 2 rfl) rfl <| qc_bipush (qc_at qkX1_isColumn 3 rfl) <| ?_
    refine qc_icmp_ge (qc_at qkX1_isColumn 4 rfl) (fun h2 => ?_) (fun h2 => ?_)
    · refine qc_iconst (qc_at qkX1_isColumn 7 rfl) <| ?_
      refine qc_zret (qc_at qkX1_isColumn 8 rfl) rfl (by first | exact qc_b01 _ | decide) (Nat.le_refl _) (Nat.le_refl _) ?_
      refine ⟨?_, rfl, rfl⟩
      first | (rw [qc_ib0 (by simp only [Int32.lt_iff_toInt_lt, Int32.le_iff_toInt_le, Int32.reduceToInt] at *; omega)]; rfl) | (rw [qc_ib1 (by simp only [Int32.lt_iff_toInt_lt, Int32.le_iff_toInt_le, Int32.reduceToInt] at *; omega) (by simp only [Int32.lt_iff_toInt_lt, Int32.le_iff_toInt_le, Int32.reduceToInt] at *; omega)]; rfl)
    · refine qc_iconst (qc_at qkX1_isColumn 5 rfl) <| qc_goto (qc_at qkX1_isColumn 6 rfl) <| ?_
      refine qc_zret (qc_at qkX1_isColumn 8 rfl) rfl (by first | exact qc_b01 _ | decide) (Nat.le_refl _) (Nat.le_refl _) ?_
      refine ⟨?_, rfl, rfl⟩
      first | (rw [qc_ib0 (by simp only [Int32.lt_iff_toInt_lt, Int32.le_iff_toInt_le, Int32.reduceToInt] at *; omega)]; rfl) | (rw [qc_ib1 (by simp only [Int32.lt_iff_toInt_lt, Int32.le_iff_toInt_le, Int32.reduceToInt] at *; omega) (by simp only [Int32.lt_iff_toInt_lt, Int32.le_iff_toInt_le, Int32.reduceToInt] at *; omega)]; rfl)
set_option maxRecDepth 100000 in
set_option maxHeartbeats 4000000 in
theorem sX1_isLane (w : qcW) (I : Nat → Nat → Int32) (L : Nat → Nat → Int64) (D : Nat → Nat → UInt64) (R : Nat → Nat → Nat) (c : Int32) : qc_V 0 0 0 qmX1_isLane [.int c] w (I, L, D, R) (qc_eq (some (.int (qc_b (qc_inb c 8)))) w (I, L, D, R)) := by
  refine qc_V.of rfl rfl (Nat.le_of_ble_eq_true rfl) (lv := [(0, .int c)]) rfl ?_
  refine qc_iload_n (qc_at qkX1_isLane 0 rfl) rfl <| ?_
  refine qc_if_lt (qc_at qkX1_isLane 1 rfl) (fun h1 => ?_) (fun h1 => ?_)
  · refine qc_iconst (qc_at qkX1_isLane 7 rfl) <| ?_
    refine qc_zret (qc_at qkX1_isLane 8 rfl) rfl (by first | exact qc_b01 _ | decide) (Nat.le_refl _) (Nat.le_refl _) ?_
    refine ⟨?_, rfl, rfl⟩
    first | (rw [qc_ib0 (by simp only [Int32.lt_iff_toInt_lt, Int32.le_iff_toInt_le, Int32.reduceToInt] at *; omega)]; rfl) | (rw [qc_ib1 (by simp only [Int32.lt_iff_toInt_lt, Int32.le_iff_toInt_le, Int32.reduceToInt] at *; omega) (by simp only [Int32.lt_iff_toInt_lt, Int32.le_iff_toInt_le, Int32.reduceToInt] at *; omega)]; rfl)
  · refine qc_iload_n (qc_at qkX1_isLane 2 rfl) rfl <| qc_bipush (qc_at qkX1_isLane 3 rfl) <| ?_
    refine qc_icmp_ge (qc_at qkX1_isLane 4 rfl) (fun h2 => ?_) (fun h2 => ?_)
    · refine qc_iconst (qc_at qkX1_isLane 7 rfl) <| ?_
      refine qc_zret (qc_at qkX1_isLane 8 rfl) rfl (by first | exact qc_b01 _ | decide) (Nat.le_refl _) (Nat.le_refl _) ?_
      refine ⟨?_, rfl, rfl⟩
      first | (rw [qc_ib0 (by simp only [Int32.lt_iff_toInt_lt, Int32.le_iff_toInt_le, Int32.reduceToInt] at *; omega)]; rfl) | (rw [qc_ib1 (by simp only [Int32.lt_iff_toInt_lt, Int32.le_iff_toInt_le, Int32.reduceToInt] at *; omega) (by simp only [Int32.lt_iff_toInt_lt, Int32.le_iff_toInt_le, Int32.reduceToInt] at *; omega)]; rfl)
    · refine qc_iconst (qc_at qkX1_isLane 5 rfl) <| qc_goto (qc_at qkX1_isLane 6 rfl) <| ?_
      refine qc_zret (qc_at qkX1_isLane 8 rfl) rfl (by first | exact qc_b01 _ | decide) (Nat.le_refl _) (Nat.le_refl _) ?_
      refine ⟨?_, rfl, rfl⟩
      first | (rw [qc_ib0 (by simp only [Int32.lt_iff_toInt_lt, Int32.le_iff_toInt_le, Int32.reduceToInt] at *; omega)]; rfl) | (rw [qc_ib1 (by simp only [Int32.lt_iff_toInt_lt, Int32.le_iff_toInt_le, Int32.reduceToInt] at *; omega) (by simp only [Int32.lt_iff_toInt_lt, Int32.le_iff_toInt_le, Int32.reduceToInt] at *; omega)]; rfl)
def qx_us (I : Nat → Nat → Int32) (a : Nat) (r : Int32) : Nat → Bool := fun c => decide (I a c = r)
set_option maxRecDepth 100000 in
set_option maxHeartbeats 4000000 in
theorem lX1_isUsed (w : qcW) (I : Nat → Nat → Int32) (L : Nat → Nat → Int64) (D : Nat → Nat → UInt64) (R : Nat → Nat → Nat) (hn : qcNF ≤ w.1) (hR : qc_FR R) (row : Int32) : ∀ (k : Nat) (j : Nat) (x : Int32) (hx : x = nI j) (hj : j ≤ 10) (hk : 10 - j < k) (hi : ∀ d, d < j → qx_us I 258 row d = false), qc_X (qc_rm 0 0 0) qmX1_isUsed (qc_QM 0 0 (qc_eq (some (.int (qc_b (decide (qc_ls (qx_us I 258 row) 10 < 10))))) w (I, L, D, R))) 0 0 w (2, [(0, .ref 257), (1, .int row), (2, .int x)], [], I, L, D, R) := by
  intro k
  induction k with
  | zero => intro j x hx hj hk; omega
  | succ k ih =>
    intro j x hx hj hk hi
    have tx := qc_ti hx (by omega)
    refine qc_iload_n (qc_at qkX1_isUsed 2 rfl) rfl <| qc_bipush (qc_at qkX1_isUsed 3 rfl) <| ?_
    refine qc_icmp_ge (qc_at qkX1_isUsed 4 rfl) (fun h1 => ?_) (fun h1 => ?_)
    · refine qc_iconst (qc_at qkX1_isUsed 15 rfl) <| ?_
      refine qc_zret (qc_at qkX1_isUsed 16 rfl) rfl (by first | exact qc_b01 _ | decide) (Nat.le_refl _) (Nat.le_refl _) ?_
      have e10 : j = 10 := by simp only [Int32.lt_iff_toInt_lt, Int32.le_iff_toInt_le, Int32.reduceToInt] at *; omega
      refine ⟨?_, rfl, rfl⟩
      rw [qc_ls_eq (j := j) (by omega) hi (Or.inl e10), e10]; rfl
    · refine qc_aload_n (qc_at qkX1_isUsed 5 rfl) rfl <| qc_gR (qc_at qkX1_isUsed 6 rfl) hn rfl (qfr_257_0 hR) rfl <| qc_iload_n (qc_at qkX1_isUsed 7 rfl) rfl <| qc_iald 10 (qc_at qkX1_isUsed 8 rfl) hn rfl (qc_inI (by simp only [Int32.lt_iff_toInt_lt, Int32.le_iff_toInt_le, Int32.reduceToInt] at *; omega) (by simp only [Int32.lt_iff_toInt_lt, Int32.le_iff_toInt_le, Int32.reduceToInt] at *; omega)) <| qc_iload_n (qc_at qkX1_isUsed 9 rfl) rfl <| ?_
      refine qc_icmp_ne (qc_at qkX1_isUsed 10 rfl) (fun h2 => ?_) (fun h2 => ?_)
      · refine qc_iinc (lv' := [(2, _), (0, _), (1, _)]) (qc_at qkX1_isUsed 13 rfl) rfl rfl rfl <| qc_goto (qc_at qkX1_isUsed 14 rfl) <| ?_
        refine qc_sub [1, 2, 0] rfl ?_
        refine ih (j + 1) _ (qc_s1x hx) (by simp only [Int32.lt_iff_toInt_lt, Int32.le_iff_toInt_le, Int32.reduceToInt] at *; omega) (by simp only [Int32.lt_iff_toInt_lt, Int32.le_iff_toInt_le, Int32.reduceToInt] at *; omega) (fun d hd => ?_)
        by_cases e : d = j
        · subst e; unfold qx_us; simp only [qc_tc1 hx (by omega)] at *; simpa using h2
        · exact hi d (by omega)
      · refine qc_iconst (qc_at qkX1_isUsed 11 rfl) <| ?_
        refine qc_zret (qc_at qkX1_isUsed 12 rfl) rfl (by first | exact qc_b01 _ | decide) (Nat.le_refl _) (Nat.le_refl _) ?_
        have h10 : j < 10 := by simp only [Int32.lt_iff_toInt_lt, Int32.le_iff_toInt_le, Int32.reduceToInt] at *; omega
        refine ⟨?_, rfl, rfl⟩
        rw [qc_ls_eq (j := j) (by omega) hi (Or.inr (by unfold qx_us; rw [qc_tc1 hx (by omega)] at h2; exact decide_eq_true h2)), decide_eq_true h10]; rfl
set_option maxRecDepth 100000 in
set_option maxHeartbeats 4000000 in
theorem sX1_isUsed (w : qcW) (I : Nat → Nat → Int32) (L : Nat → Nat → Int64) (D : Nat → Nat → UInt64) (R : Nat → Nat → Nat) (hn : qcNF ≤ w.1) (hR : qc_FR R) (row : Int32) : qc_V 0 0 0 qmX1_isUsed [.ref 257, .int row] w (I, L, D, R) (qc_eq (some (.int (qc_b (decide (qc_ls (qx_us I 258 row) 10 < 10))))) w (I, L, D, R)) := by
  refine qc_V.of rfl rfl (Nat.le_of_ble_eq_true rfl) (lv := [(0, .ref 257), (1, .int row)]) rfl ?_
  refine qc_iconst (qc_at qkX1_isUsed 0 rfl) <| qc_istore_n (lv' := [(2, _), (0, _), (1, _)]) (qc_at qkX1_isUsed 1 rfl) rfl rfl <| ?_
  exact qc_sub [1, 2, 0] rfl (lX1_isUsed w I L D R hn hR row 11 0 0 rfl (by omega) (by omega) (fun d hd => absurd hd (Nat.not_lt_zero d)))
/-- the least row that no column has -/
def qx_fr (I : Nat → Nat → Int32) (a n : Nat) : Nat := qc_ls (fun r => decide (10 ≤ qc_ls (qx_us I a (nI r)) 10)) n
set_option maxRecDepth 100000 in
set_option maxHeartbeats 4000000 in
theorem lX1_freeRow (w : qcW) (I : Nat → Nat → Int32) (L : Nat → Nat → Int64) (D : Nat → Nat → UInt64) (R : Nat → Nat → Nat) (hn : qcNF ≤ w.1) (hR : qc_FR R) (hf : qx_fr I 258 10 < 10) : ∀ (k : Nat) (j : Nat) (x : Int32) (hx : x = nI j) (hj : j ≤ 10) (hk : 10 - j < k) (hi : ∀ d, d < j → decide (10 ≤ qc_ls (qx_us I 258 (nI d)) 10) = false), qc_X (qc_rm 1 0 0) qmX1_freeRow (qc_QM 0 0 (qc_eq (some (.int (nI (qx_fr I 258 10)))) w (I, L, D, R))) 0 0 w (2, [(0, .ref 257), (1, .int x)], [], I, L, D, R) := by
  intro k
  induction k with
  | zero => intro j x hx hj hk; omega
  | succ k ih =>
    intro j x hx hj hk hi
    have tx := qc_ti hx (by omega)
    refine qc_iload_n (qc_at qkX1_freeRow 2 rfl) rfl <| qc_bipush (qc_at qkX1_freeRow 3 rfl) <| ?_
    refine qc_icmp_ge (qc_at qkX1_freeRow 4 rfl) (fun h1 => ?_) (fun h1 => ?_)
    · refine qc_iconst (qc_at qkX1_freeRow 13 rfl) <| ?_
      refine qc_iret (qc_at qkX1_freeRow 14 rfl) rfl (Nat.le_refl _) (Nat.le_refl _) ?_
      exfalso
      have e10 : j = 10 := by simp only [Int32.lt_iff_toInt_lt, Int32.le_iff_toInt_le, Int32.reduceToInt] at *; omega
      unfold qx_fr at hf
      rw [qc_ls_eq (j := j) (by omega) hi (Or.inl e10)] at hf
      omega
    · have h10 : j < 10 := by simp only [Int32.lt_iff_toInt_lt, Int32.le_iff_toInt_le, Int32.reduceToInt] at *; omega
      refine qc_aload_n (qc_at qkX1_freeRow 5 rfl) rfl <| qc_iload_n (qc_at qkX1_freeRow 6 rfl) rfl <| qc_cVv (ci := 1) (a0 := 257) (qc_at qkX1_freeRow 7 rfl) ql_1_47 qfX1_isUsed (qc_kf hn rfl) rfl (sX1_isUsed _ _ _ _ _ hn hR _) rfl rfl (by decide) ⟨by decide, by decide⟩ ⟨by decide, by decide⟩ <| ?_
      refine qc_ifB_ne (qc_at qkX1_freeRow 8 rfl) (fun h2 => ?_) (fun h2 => ?_)
      · refine qc_iinc (lv' := [(1, _), (0, _)]) (qc_at qkX1_freeRow 11 rfl) rfl rfl rfl <| qc_goto (qc_at qkX1_freeRow 12 rfl) <| ?_
        refine qc_sub [1, 0] rfl ?_
        refine ih (j + 1) _ (qc_s1x hx) (by omega) (by omega) (fun d hd => ?_)
        by_cases e : d = j
        · subst e; rw [hx] at h2; have := of_decide_eq_true h2; exact decide_eq_false (by omega)
        · exact hi d (by omega)
      · refine qc_iload_n (qc_at qkX1_freeRow 9 rfl) rfl <| ?_
        refine qc_iret (qc_at qkX1_freeRow 10 rfl) rfl (Nat.le_refl _) (Nat.le_refl _) ?_
        refine ⟨?_, rfl, rfl⟩
        rw [hx] at h2
        have h3 := of_decide_eq_false h2
        unfold qx_fr
        rw [qc_ls_eq (j := j) (by omega) hi (Or.inr (decide_eq_true (by omega))), hx]
set_option maxRecDepth 100000 in
set_option maxHeartbeats 4000000 in
theorem sX1_freeRow (w : qcW) (I : Nat → Nat → Int32) (L : Nat → Nat → Int64) (D : Nat → Nat → UInt64) (R : Nat → Nat → Nat) (hn : qcNF ≤ w.1) (hR : qc_FR R) (hf : qx_fr I 258 10 < 10) : qc_V 1 0 0 qmX1_freeRow [.ref 257] w (I, L, D, R) (qc_eq (some (.int (nI (qx_fr I 258 10)))) w (I, L, D, R)) := by
  refine qc_V.of rfl rfl (Nat.le_of_ble_eq_true rfl) (lv := [(0, .ref 257)]) rfl ?_
  refine qc_iconst (qc_at qkX1_freeRow 0 rfl) <| qc_istore_n (lv' := [(1, _), (0, _)]) (qc_at qkX1_freeRow 1 rfl) rfl rfl <| ?_
  exact qc_sub [1, 0] rfl (lX1_freeRow w I L D R hn hR hf 11 0 0 rfl (by omega) (by omega) (fun d hd => absurd hd (Nat.not_lt_zero d)))
/-- rows that columns name are rows -/
def qx_ok (I : Nat → Nat → Int32) (a n : Nat) : Prop := ∀ c, c < 10 → I a c = -1 ∨ ∃ r, r < n ∧ I a c = nI r
theorem qx_ok_in {I : Nat → Nat → Int32} {a n : Nat} (h : qx_ok I a n) (hn : n < 2 ^ 31) {c : Nat} (hc : c < 10) (h1 : ¬ I a c = -1) : vp_in (I a c) n := by
  rcases h c hc with h2 | ⟨r, hr, h2⟩
  · exact absurd h2 h1
  · rw [h2]; exact vp_in_nI hr hn
theorem qc_cl_lt {c : Int32} {n : Nat} (h : qc_inb c n = true) : c.toNatClampNeg < n := by
  have := qc_inb_in h
  exact Nat.not_le.mp fun q => this (Or.inr q)
def qx_at (I : Nat → Nat → Int32) (a b : Nat) (c : Int32) : Int32 := cond (qc_inb c 10 && !decide (I a c.toNatClampNeg = -1)) (I b (I a c.toNatClampNeg).toNatClampNeg) (-1)
set_option maxRecDepth 100000 in
set_option maxHeartbeats 4000000 in
theorem sX1_laneOf (w : qcW) (I : Nat → Nat → Int32) (L : Nat → Nat → Int64) (D : Nat → Nat → UInt64) (R : Nat → Nat → Nat) (hn : qcNF ≤ w.1) (hR : qc_FR R) (hI : qx_ok I 258 10) (c : Int32) : qc_V 1 0 0 qmX1_laneOf [.ref 257, .int c] w (I, L, D, R) (qc_eq (some (.int (qx_at I 258 259 c))) w (I, L, D, R)) := by
  refine qc_V.of rfl rfl (Nat.le_of_ble_eq_true rfl) (lv := [(0, .ref 257), (1, .int c)]) rfl ?_
  refine qc_iload_n (qc_at qkX1_laneOf 0 rfl) rfl <| qc_cSv (qc_at qkX1_laneOf 1 rfl) ql_1_39 qfX1_isColumn (sX1_isColumn _ _ _ _ _ _) rfl rfl (by decide) ⟨by decide, by decide⟩ ⟨by decide, by decide⟩ <| ?_
  refine qc_ifB_eq (qc_at qkX1_laneOf 2 rfl) (fun h1 => ?_) (fun h1 => ?_)
  · refine qc_iconst (qc_at qkX1_laneOf 17 rfl) <| ?_
    refine qc_iret (qc_at qkX1_laneOf 18 rfl) rfl (Nat.le_refl _) (Nat.le_refl _) ?_
    exact ⟨by simp [qx_at, *], rfl, rfl⟩
  · refine qc_aload_n (qc_at qkX1_laneOf 3 rfl) rfl <| qc_gR (qc_at qkX1_laneOf 4 rfl) hn rfl (qfr_257_0 hR) rfl <| qc_iload_n (qc_at qkX1_laneOf 5 rfl) rfl <| qc_iald 10 (qc_at qkX1_laneOf 6 rfl) hn rfl (qc_inb_in h1) <| qc_iconst (qc_at qkX1_laneOf 7 rfl) <| ?_
    refine qc_icmp_eq (qc_at qkX1_laneOf 8 rfl) (fun h2 => ?_) (fun h2 => ?_)
    · refine qc_iconst (qc_at qkX1_laneOf 17 rfl) <| ?_
      refine qc_iret (qc_at qkX1_laneOf 18 rfl) rfl (Nat.le_refl _) (Nat.le_refl _) ?_
      exact ⟨by simp [qx_at, *], rfl, rfl⟩
    · refine qc_aload_n (qc_at qkX1_laneOf 9 rfl) rfl <| qc_gR (qc_at qkX1_laneOf 10 rfl) hn rfl (qfr_257_1 hR) rfl <| qc_aload_n (qc_at qkX1_laneOf 11 rfl) rfl <| qc_gR (qc_at qkX1_laneOf 12 rfl) hn rfl (qfr_257_0 hR) rfl <| qc_iload_n (qc_at qkX1_laneOf 13 rfl) rfl <| qc_iald 10 (qc_at qkX1_laneOf 14 rfl) hn rfl (qc_inb_in h1) <| qc_iald 10 (qc_at qkX1_laneOf 15 rfl) hn rfl (qx_ok_in hI (by decide) (qc_cl_lt h1) h2) <| qc_goto (qc_at qkX1_laneOf 16 rfl) <| ?_
      refine qc_iret (qc_at qkX1_laneOf 18 rfl) rfl (Nat.le_refl _) (Nat.le_refl _) ?_
      exact ⟨by simp [qx_at, *], rfl, rfl⟩
set_option maxRecDepth 100000 in
set_option maxHeartbeats 4000000 in
theorem sX1_sizeOf (w : qcW) (I : Nat → Nat → Int32) (L : Nat → Nat → Int64) (D : Nat → Nat → UInt64) (R : Nat → Nat → Nat) (hn : qcNF ≤ w.1) (hR : qc_FR R) (hI : qx_ok I 258 10) (c : Int32) : qc_V 1 0 0 qmX1_sizeOf [.ref 257, .int c] w (I, L, D, R) (qc_eq (some (.int (qx_at I 258 260 c))) w (I, L, D, R)) := by
  refine qc_V.of rfl rfl (Nat.le_of_ble_eq_true rfl) (lv := [(0, .ref 257), (1, .int c)]) rfl ?_
  refine qc_iload_n (qc_at qkX1_sizeOf 0 rfl) rfl <| qc_cSv (qc_at qkX1_sizeOf 1 rfl) ql_1_39 qfX1_isColumn (sX1_isColumn _ _ _ _ _ _) rfl rfl (by decide) ⟨by decide, by decide⟩ ⟨by decide, by decide⟩ <| ?_
  refine qc_ifB_eq (qc_at qkX1_sizeOf 2 rfl) (fun h1 => ?_) (fun h1 => ?_)
  · refine qc_iconst (qc_at qkX1_sizeOf 17 rfl) <| ?_
    refine qc_iret (qc_at qkX1_sizeOf 18 rfl) rfl (Nat.le_refl _) (Nat.le_refl _) ?_
    exact ⟨by simp [qx_at, *], rfl, rfl⟩
  · refine qc_aload_n (qc_at qkX1_sizeOf 3 rfl) rfl <| qc_gR (qc_at qkX1_sizeOf 4 rfl) hn rfl (qfr_257_0 hR) rfl <| qc_iload_n (qc_at qkX1_sizeOf 5 rfl) rfl <| qc_iald 10 (qc_at qkX1_sizeOf 6 rfl) hn rfl (qc_inb_in h1) <| qc_iconst (qc_at qkX1_sizeOf 7 rfl) <| ?_
    refine qc_icmp_eq (qc_at qkX1_sizeOf 8 rfl) (fun h2 => ?_) (fun h2 => ?_)
    · refine qc_iconst (qc_at qkX1_sizeOf 17 rfl) <| ?_
      refine qc_iret (qc_at qkX1_sizeOf 18 rfl) rfl (Nat.le_refl _) (Nat.le_refl _) ?_
      exact ⟨by simp [qx_at, *], rfl, rfl⟩
    · refine qc_aload_n (qc_at qkX1_sizeOf 9 rfl) rfl <| qc_gR (qc_at qkX1_sizeOf 10 rfl) hn rfl (qfr_257_2 hR) rfl <| qc_aload_n (qc_at qkX1_sizeOf 11 rfl) rfl <| qc_gR (qc_at qkX1_sizeOf 12 rfl) hn rfl (qfr_257_0 hR) rfl <| qc_iload_n (qc_at qkX1_sizeOf 13 rfl) rfl <| qc_iald 10 (qc_at qkX1_sizeOf 14 rfl) hn rfl (qc_inb_in h1) <| qc_iald 10 (qc_at qkX1_sizeOf 15 rfl) hn rfl (qx_ok_in hI (by decide) (qc_cl_lt h1) h2) <| qc_goto (qc_at qkX1_sizeOf 16 rfl) <| ?_
      refine qc_iret (qc_at qkX1_sizeOf 18 rfl) rfl (Nat.le_refl _) (Nat.le_refl _) ?_
      exact ⟨by simp [qx_at, *], rfl, rfl⟩
def qx_kind (l : Int32) : Int32 := if l = 0 then 0 else if 4 < l then l - 4 + 1 else 1
set_option maxRecDepth 100000 in
set_option maxHeartbeats 4000000 in
theorem sX1_kindOf (w : qcW) (I : Nat → Nat → Int32) (L : Nat → Nat → Int64) (D : Nat → Nat → UInt64) (R : Nat → Nat → Nat) (l : Int32) : qc_V 0 0 0 qmX1_kindOf [.int l] w (I, L, D, R) (qc_eq (some (.int (qx_kind l))) w (I, L, D, R)) := by
  refine qc_V.of rfl rfl (Nat.le_of_ble_eq_true rfl) (lv := [(0, .int l)]) rfl ?_
  refine qc_iload_n (qc_at qkX1_kindOf 0 rfl) rfl <| ?_
  refine qc_if_ne (qc_at qkX1_kindOf 1 rfl) (fun h1 => ?_) (fun h1 => ?_)
  · refine qc_iload_n (qc_at qkX1_kindOf 4 rfl) rfl <| qc_iconst (qc_at qkX1_kindOf 5 rfl) <| ?_
    refine qc_icmp_gt (qc_at qkX1_kindOf 6 rfl) (fun h2 => ?_) (fun h2 => ?_)
    · refine qc_iload_n (qc_at qkX1_kindOf 9 rfl) rfl <| qc_iconst (qc_at qkX1_kindOf 10 rfl) <| qc_isub (qc_at qkX1_kindOf 11 rfl) <| qc_iconst (qc_at qkX1_kindOf 12 rfl) <| qc_iadd (qc_at qkX1_kindOf 13 rfl) <| ?_
      refine qc_iret (qc_at qkX1_kindOf 14 rfl) rfl (Nat.le_refl _) (Nat.le_refl _) ?_
      exact ⟨by simp [qx_kind, *], rfl, rfl⟩
    · refine qc_iconst (qc_at qkX1_kindOf 7 rfl) <| qc_goto (qc_at qkX1_kindOf 8 rfl) <| ?_
      refine qc_iret (qc_at qkX1_kindOf 14 rfl) rfl (Nat.le_refl _) (Nat.le_refl _) ?_
      exact ⟨by simp [qx_kind, *], rfl, rfl⟩
  · refine qc_iconst (qc_at qkX1_kindOf 2 rfl) <| ?_
    refine qc_iret (qc_at qkX1_kindOf 3 rfl) rfl (Nat.le_refl _) (Nat.le_refl _) ?_
    exact ⟨by simp [qx_kind, *], rfl, rfl⟩
set_option maxRecDepth 100000 in
set_option maxHeartbeats 4000000 in
theorem sX1_unite (w : qcW) (I : Nat → Nat → Int32) (L : Nat → Nat → Int64) (D : Nat → Nat → UInt64) (R : Nat → Nat → Nat) (hn : qcNF ≤ w.1) (hR : qc_FR R) (c d : Int32) (hc : qc_inb c 10 = true) (hd : qc_inb d 10 = true) : qc_V 0 0 0 qmX1_unite [.ref 257, .int c, .int d] w (I, L, D, R) (qc_eq none w (qc_u I 258 c.toNatClampNeg (I 258 d.toNatClampNeg), L, D, R)) := by
  refine qc_V.of rfl rfl (Nat.le_of_ble_eq_true rfl) (lv := [(0, .ref 257), (1, .int c), (2, .int d)]) rfl ?_
  refine qc_aload_n (qc_at qkX1_unite 0 rfl) rfl <| qc_gR (qc_at qkX1_unite 1 rfl) hn rfl (qfr_257_0 hR) rfl <| qc_iload_n (qc_at qkX1_unite 2 rfl) rfl <| qc_aload_n (qc_at qkX1_unite 3 rfl) rfl <| qc_gR (qc_at qkX1_unite 4 rfl) hn rfl (qfr_257_0 hR) rfl <| qc_iload_n (qc_at qkX1_unite 5 rfl) rfl <| qc_iald 10 (qc_at qkX1_unite 6 rfl) hn rfl (qc_inb_in hd) <| qc_iast 10 (qc_at qkX1_unite 7 rfl) hn rfl (qc_inb_in hc) <| ?_
  refine qc_vret (qc_at qkX1_unite 8 rfl) rfl (Nat.le_refl _) (Nat.le_refl _) ?_
  exact qc_eq.rf _ _ _
set_option maxRecDepth 100000 in
set_option maxHeartbeats 4000000 in
theorem sX1_lose (w : qcW) (I : Nat → Nat → Int32) (L : Nat → Nat → Int64) (D : Nat → Nat → UInt64) (R : Nat → Nat → Nat) (hn : qcNF ≤ w.1) (hR : qc_FR R) (c : Int32) (hc : qc_inb c 10 = true) : qc_V 0 0 0 qmX1_lose [.ref 257, .int c] w (I, L, D, R) (qc_eq (some (.int (qc_b (!decide (I 258 c.toNatClampNeg = -1))))) w (qc_u I 258 c.toNatClampNeg (-1), L, D, R)) := by
  refine qc_V.of rfl rfl (Nat.le_of_ble_eq_true rfl) (lv := [(0, .ref 257), (1, .int c)]) rfl ?_
  refine qc_aload_n (qc_at qkX1_lose 0 rfl) rfl <| qc_gR (qc_at qkX1_lose 1 rfl) hn rfl (qfr_257_0 hR) rfl <| qc_iload_n (qc_at qkX1_lose 2 rfl) rfl <| qc_iald 10 (qc_at qkX1_lose 3 rfl) hn rfl (qc_inb_in hc) <| qc_iconst (qc_at qkX1_lose 4 rfl) <| ?_
  refine qc_icmp_eq (qc_at qkX1_lose 5 rfl) (fun h1 => ?_) (fun h1 => ?_)
  · refine qc_iconst (qc_at qkX1_lose 8 rfl) <| qc_istore_n (lv' := [(2, _), (0, _), (1, _)]) (qc_at qkX1_lose 9 rfl) rfl rfl <| qc_aload_n (qc_at qkX1_lose 10 rfl) rfl <| qc_gR (qc_at qkX1_lose 11 rfl) hn rfl (qfr_257_0 hR) rfl <| qc_iload_n (qc_at qkX1_lose 12 rfl) rfl <| qc_iconst (qc_at qkX1_lose 13 rfl) <| qc_iast 10 (qc_at qkX1_lose 14 rfl) hn rfl (qc_inb_in hc) <| qc_iload_n (qc_at qkX1_lose 15 rfl) rfl <| ?_
    refine qc_zret (qc_at qkX1_lose 16 rfl) rfl (by first | exact qc_b01 _ | decide) (Nat.le_refl _) (Nat.le_refl _) ?_
    exact ⟨by simp [qc_b, *], rfl, rfl⟩
  · refine qc_iconst (qc_at qkX1_lose 6 rfl) <| qc_goto (qc_at qkX1_lose 7 rfl) <| qc_istore_n (lv' := [(2, _), (0, _), (1, _)]) (qc_at qkX1_lose 9 rfl) rfl rfl <| qc_aload_n (qc_at qkX1_lose 10 rfl) rfl <| qc_gR (qc_at qkX1_lose 11 rfl) hn rfl (qfr_257_0 hR) rfl <| qc_iload_n (qc_at qkX1_lose 12 rfl) rfl <| qc_iconst (qc_at qkX1_lose 13 rfl) <| qc_iast 10 (qc_at qkX1_lose 14 rfl) hn rfl (qc_inb_in hc) <| qc_iload_n (qc_at qkX1_lose 15 rfl) rfl <| ?_
    refine qc_zret (qc_at qkX1_lose 16 rfl) rfl (by first | exact qc_b01 _ | decide) (Nat.le_refl _) (Nat.le_refl _) ?_
    exact ⟨by simp [qc_b, *], rfl, rfl⟩
def qx_has (I : Nat → Nat → Int32) (a : Nat) : Nat → Bool := fun c => !decide (I a c = -1)
set_option maxRecDepth 100000 in
set_option maxHeartbeats 4000000 in
theorem lX1_present (w : qcW) (I : Nat → Nat → Int32) (L : Nat → Nat → Int64) (D : Nat → Nat → UInt64) (R : Nat → Nat → Nat) (hn : qcNF ≤ w.1) (hR : qc_FR R) : ∀ (k : Nat) (j : Nat) (x y : Int32) (hx : x = nI j) (hj : j ≤ 10) (hk : 10 - j < k) (hy : y = nI (qc_cnt (qx_has I 258) j)), qc_X (qc_rm 0 0 0) qmX1_present (qc_QM 0 0 (qc_eq (some (.int (nI (qc_cnt (qx_has I 258) 10)))) w (I, L, D, R))) 0 0 w (4, [(0, .ref 257), (1, .int y), (2, .int x)], [], I, L, D, R) := by
  intro k
  induction k with
  | zero => intro j x y hx hj hk; omega
  | succ k ih =>
    intro j x y hx hj hk hy
    have tx := qc_ti hx (by omega)
    refine qc_iload_n (qc_at qkX1_present 4 rfl) rfl <| qc_bipush (qc_at qkX1_present 5 rfl) <| ?_
    refine qc_icmp_ge (qc_at qkX1_present 6 rfl) (fun h1 => ?_) (fun h1 => ?_)
    · refine qc_iload_n (qc_at qkX1_present 16 rfl) rfl <| ?_
      refine qc_iret (qc_at qkX1_present 17 rfl) rfl (Nat.le_refl _) (Nat.le_refl _) ?_
      have e10 : j = 10 := by simp only [Int32.lt_iff_toInt_lt, Int32.le_iff_toInt_le, Int32.reduceToInt] at *; omega
      exact ⟨by rw [hy, e10], rfl, rfl⟩
    · refine qc_aload_n (qc_at qkX1_present 7 rfl) rfl <| qc_gR (qc_at qkX1_present 8 rfl) hn rfl (qfr_257_0 hR) rfl <| qc_iload_n (qc_at qkX1_present 9 rfl) rfl <| qc_iald 10 (qc_at qkX1_present 10 rfl) hn rfl (qc_inI (by simp only [Int32.lt_iff_toInt_lt, Int32.le_iff_toInt_le, Int32.reduceToInt] at *; omega) (by simp only [Int32.lt_iff_toInt_lt, Int32.le_iff_toInt_le, Int32.reduceToInt] at *; omega)) <| qc_iconst (qc_at qkX1_present 11 rfl) <| ?_
      refine qc_icmp_eq (qc_at qkX1_present 12 rfl) (fun h2 => ?_) (fun h2 => ?_)
      · refine qc_iinc (lv' := [(2, _), (0, _), (1, _)]) (qc_at qkX1_present 14 rfl) rfl rfl rfl <| qc_goto (qc_at qkX1_present 15 rfl) <| ?_
        refine qc_sub [1, 2, 0] rfl ?_
        refine ih (j + 1) _ _ (qc_s1x hx) (by simp only [Int32.lt_iff_toInt_lt, Int32.le_iff_toInt_le, Int32.reduceToInt] at *; omega) (by simp only [Int32.lt_iff_toInt_lt, Int32.le_iff_toInt_le, Int32.reduceToInt] at *; omega) ?_
        rw [qc_tc1 hx (by omega)] at h2
        rw [hy]; simp [qc_cnt, qx_has, h2, nI_1]
      · refine qc_iinc (lv' := [(1, _), (0, _), (2, _)]) (qc_at qkX1_present 13 rfl) rfl rfl rfl <| qc_iinc (lv' := [(2, _), (1, _), (0, _)]) (qc_at qkX1_present 14 rfl) rfl rfl rfl <| qc_goto (qc_at qkX1_present 15 rfl) <| ?_
        refine qc_sub [2, 1, 0] rfl ?_
        refine ih (j + 1) _ _ (qc_s1x hx) (by simp only [Int32.lt_iff_toInt_lt, Int32.le_iff_toInt_le, Int32.reduceToInt] at *; omega) (by simp only [Int32.lt_iff_toInt_lt, Int32.le_iff_toInt_le, Int32.reduceToInt] at *; omega) ?_
        rw [qc_tc1 hx (by omega)] at h2
        rw [hy]; simp [qc_cnt, qx_has, h2, nI_1]
set_option maxRecDepth 100000 in
set_option maxHeartbeats 4000000 in
theorem sX1_present (w : qcW) (I : Nat → Nat → Int32) (L : Nat → Nat → Int64) (D : Nat → Nat → UInt64) (R : Nat → Nat → Nat) (hn : qcNF ≤ w.1) (hR : qc_FR R) : qc_V 0 0 0 qmX1_present [.ref 257] w (I, L, D, R) (qc_eq (some (.int (nI (qc_cnt (qx_has I 258) 10)))) w (I, L, D, R)) := by
  refine qc_V.of rfl rfl (Nat.le_of_ble_eq_true rfl) (lv := [(0, .ref 257)]) rfl ?_
  refine qc_iconst (qc_at qkX1_present 0 rfl) <| qc_istore_n (lv' := [(1, _), (0, _)]) (qc_at qkX1_present 1 rfl) rfl rfl <| qc_iconst (qc_at qkX1_present 2 rfl) <| qc_istore_n (lv' := [(2, _), (1, _), (0, _)]) (qc_at qkX1_present 3 rfl) rfl rfl <| ?_
  exact qc_sub [2, 1, 0] rfl (lX1_present w I L D R hn hR 11 0 0 0 rfl (by omega) (by omega) rfl)
def qx_like (I : Nat → Nat → Int32) (a c : Nat) : Nat → Bool := fun d => decide (I a d = I a c)
set_option maxRecDepth 100000 in
set_option maxHeartbeats 4000000 in
theorem lX1_leastLike (w : qcW) (I : Nat → Nat → Int32) (L : Nat → Nat → Int64) (D : Nat → Nat → UInt64) (R : Nat → Nat → Nat) (hn : qcNF ≤ w.1) (hR : qc_FR R) (c : Nat) (hc : c < 10) (xc : Int32) (hxc : xc = nI c) : ∀ (k : Nat) (j : Nat) (x : Int32) (hx : x = nI j) (hj : j ≤ c) (hk : c - j < k) (hi : ∀ d, d < j → qx_like I 258 c d = false), qc_X (qc_rm 0 0 0) qmX1_leastLike (qc_QM 0 0 (qc_eq (some (.int (nI (qc_ls (qx_like I 258 c) c)))) w (I, L, D, R))) 0 0 w (2, [(0, .ref 257), (1, .int xc), (2, .int x)], [], I, L, D, R) := by
  intro k
  induction k with
  | zero => intro j x hx hj hk; omega
  | succ k ih =>
    intro j x hx hj hk hi
    have tx := qc_ti hx (by omega)
    have txc := qc_ti hxc (by omega)
    refine qc_iload_n (qc_at qkX1_leastLike 2 rfl) rfl <| qc_iload_n (qc_at qkX1_leastLike 3 rfl) rfl <| ?_
    refine qc_icmp_ge (qc_at qkX1_leastLike 4 rfl) (fun h1 => ?_) (fun h1 => ?_)
    · refine qc_iload_n (qc_at qkX1_leastLike 18 rfl) rfl <| ?_
      refine qc_iret (qc_at qkX1_leastLike 19 rfl) rfl (Nat.le_refl _) (Nat.le_refl _) ?_
      have e10 : j = c := by simp only [Int32.lt_iff_toInt_lt, Int32.le_iff_toInt_le, Int32.reduceToInt] at *; omega
      refine ⟨?_, rfl, rfl⟩
      rw [qc_ls_eq (j := j) (by omega) hi (Or.inl e10), hxc, e10]
    · refine qc_aload_n (qc_at qkX1_leastLike 5 rfl) rfl <| qc_gR (qc_at qkX1_leastLike 6 rfl) hn rfl (qfr_257_0 hR) rfl <| qc_iload_n (qc_at qkX1_leastLike 7 rfl) rfl <| qc_iald 10 (qc_at qkX1_leastLike 8 rfl) hn rfl (qc_inI (by simp only [Int32.lt_iff_toInt_lt, Int32.le_iff_toInt_le, Int32.reduceToInt] at *; omega) (by simp only [Int32.lt_iff_toInt_lt, Int32.le_iff_toInt_le, Int32.reduceToInt] at *; omega)) <| qc_aload_n (qc_at qkX1_leastLike 9 rfl) rfl <| qc_gR (qc_at qkX1_leastLike 10 rfl) hn rfl (qfr_257_0 hR) rfl <| qc_iload_n (qc_at qkX1_leastLike 11 rfl) rfl <| qc_iald 10 (qc_at qkX1_leastLike 12 rfl) hn rfl (qc_inI (by simp only [Int32.lt_iff_toInt_lt, Int32.le_iff_toInt_le, Int32.reduceToInt] at *; omega) (by simp only [Int32.lt_iff_toInt_lt, Int32.le_iff_toInt_le, Int32.reduceToInt] at *; omega)) <| ?_
      refine qc_icmp_ne (qc_at qkX1_leastLike 13 rfl) (fun h2 => ?_) (fun h2 => ?_)
      · refine qc_iinc (lv' := [(2, _), (0, _), (1, _)]) (qc_at qkX1_leastLike 16 rfl) rfl rfl rfl <| qc_goto (qc_at qkX1_leastLike 17 rfl) <| ?_
        refine qc_sub [1, 2, 0] rfl ?_
        refine ih (j + 1) _ (qc_s1x hx) (by simp only [Int32.lt_iff_toInt_lt, Int32.le_iff_toInt_le, Int32.reduceToInt] at *; omega) (by simp only [Int32.lt_iff_toInt_lt, Int32.le_iff_toInt_le, Int32.reduceToInt] at *; omega) (fun d hd => ?_)
        by_cases e : d = j
        · subst e; unfold qx_like; rw [qc_tc1 hx (by omega), qc_tc1 hxc (by omega)] at h2; exact decide_eq_false h2
        · exact hi d (by omega)
      · refine qc_iload_n (qc_at qkX1_leastLike 14 rfl) rfl <| ?_
        refine qc_iret (qc_at qkX1_leastLike 15 rfl) rfl (Nat.le_refl _) (Nat.le_refl _) ?_
        have e10 : j < c := by simp only [Int32.lt_iff_toInt_lt, Int32.le_iff_toInt_le, Int32.reduceToInt] at *; omega
        refine ⟨?_, rfl, rfl⟩
        rw [qc_ls_eq (j := j) (by omega) hi (Or.inr ?_), hx]
        unfold qx_like; rw [qc_tc1 hx (by omega), qc_tc1 hxc (by omega)] at h2; exact decide_eq_true h2
set_option maxRecDepth 100000 in
set_option maxHeartbeats 4000000 in
theorem sX1_leastLike (w : qcW) (I : Nat → Nat → Int32) (L : Nat → Nat → Int64) (D : Nat → Nat → UInt64) (R : Nat → Nat → Nat) (hn : qcNF ≤ w.1) (hR : qc_FR R) (xc : Int32) (h : qc_inb xc 10 = true) : qc_V 0 0 0 qmX1_leastLike [.ref 257, .int xc] w (I, L, D, R) (qc_eq (some (.int (nI (qc_ls (qx_like I 258 xc.toNatClampNeg) xc.toNatClampNeg)))) w (I, L, D, R)) := by
  obtain ⟨c, hc, hxc⟩ := qc_inb_of h (by decide)
  have ec := qc_tc1 hxc (by omega)
  refine qc_V.of rfl rfl (Nat.le_of_ble_eq_true rfl) (lv := [(0, .ref 257), (1, .int xc)]) rfl ?_
  refine qc_iconst (qc_at qkX1_leastLike 0 rfl) <| qc_istore_n (lv' := [(2, _), (0, _), (1, _)]) (qc_at qkX1_leastLike 1 rfl) rfl rfl <| ?_
  rw [ec]
  exact qc_sub [1, 2, 0] rfl (lX1_leastLike w I L D R hn hR c hc xc hxc 11 0 0 rfl (by omega) (by omega) (fun d hd => absurd hd (Nat.not_lt_zero d)))
set_option maxRecDepth 100000 in
set_option maxHeartbeats 4000000 in
theorem lX1_make (w : qcW) (I : Nat → Nat → Int32) (L : Nat → Nat → Int64) (D : Nat → Nat → UInt64) (R : Nat → Nat → Nat) (hn : qcNF ≤ w.1) (hR : qc_FR R) (c l n xr : Int32) (hc : qc_inb c 10 = true) (r : Nat) (hr : r < 10) (hxr : xr = nI r) : ∀ (k : Nat) (j : Nat) (x : Int32) (L1 : Nat → Nat → Int64) (D1 : Nat → Nat → UInt64) (hx : x = nI j) (hj : j ≤ 16) (hk : 16 - j < k) (hL : L1 = qc_fill L 261 (r * 16) j 0) (hD : D1 = qc_fill D 262 (r * 16) j 0), qc_X (qc_rm 2 0 0) qmX1_make (qc_QM 0 0 (qc_eq none w (qc_u I 258 c.toNatClampNeg xr, qc_fill L 261 (r * 16) 16 0, qc_fill D 262 (r * 16) 16 0, R))) 0 0 w (32, [(0, .ref 257), (1, .int c), (2, .int l), (3, .int n), (4, .int xr), (5, .int x)], [], I, L1, D1, R) := by
  intro k
  induction k with
  | zero => intro j x L1 D1 hx hj hk; omega
  | succ k ih =>
    intro j x L1 D1 hx hj hk hL hD
    have tx := qc_ti hx (by omega)
    refine qc_iload (qc_at qkX1_make 20 rfl) rfl <| qc_bipush (qc_at qkX1_make 21 rfl) <| ?_
    refine qc_icmp_ge (qc_at qkX1_make 22 rfl) (fun h1 => ?_) (fun h1 => ?_)
    · refine qc_aload_n (qc_at qkX1_make 43 rfl) rfl <| qc_gR (qc_at qkX1_make 44 rfl) hn rfl (qfr_257_0 hR) rfl <| qc_iload_n (qc_at qkX1_make 45 rfl) rfl <| qc_iload (qc_at qkX1_make 46 rfl) rfl <| qc_iast 10 (qc_at qkX1_make 47 rfl) hn rfl (qc_inb_in hc) <| ?_
      refine qc_vret (qc_at qkX1_make 48 rfl) rfl (Nat.le_refl _) (Nat.le_refl _) ?_
      have e16 : j = 16 := by simp only [Int32.lt_iff_toInt_lt, Int32.le_iff_toInt_le, Int32.reduceToInt] at *; omega
      rw [e16] at hL hD
      rw [hL, hD]
      exact qc_eq.rf _ _ _
    · have j16 : j < 16 := by simp only [Int32.lt_iff_toInt_lt, Int32.le_iff_toInt_le, Int32.reduceToInt] at *; omega
      have hin : vp_in (xr * 16 + x) 160 := by rw [qc_ix hxr hx]; exact vp_in_nI (by omega) (by decide)
      refine qc_aload_n (qc_at qkX1_make 23 rfl) rfl <| qc_gR (qc_at qkX1_make 24 rfl) hn rfl (qfr_257_3 hR) rfl <| qc_iload (qc_at qkX1_make 25 rfl) rfl <| qc_bipush (qc_at qkX1_make 26 rfl) <| qc_imul (qc_at qkX1_make 27 rfl) <| qc_iload (qc_at qkX1_make 28 rfl) rfl <| qc_iadd (qc_at qkX1_make 29 rfl) <| qc_lconst (qc_at qkX1_make 30 rfl) <| qc_last 160 (qc_at qkX1_make 31 rfl) hn rfl hin <| qc_aload_n (qc_at qkX1_make 32 rfl) rfl <| qc_gR (qc_at qkX1_make 33 rfl) hn rfl (qfr_257_4 hR) rfl <| qc_iload (qc_at qkX1_make 34 rfl) rfl <| qc_bipush (qc_at qkX1_make 35 rfl) <| qc_imul (qc_at qkX1_make 36 rfl) <| qc_iload (qc_at qkX1_make 37 rfl) rfl <| qc_iadd (qc_at qkX1_make 38 rfl) <| qc_dconst (qc_at qkX1_make 39 rfl) <| qc_dast 160 (qc_at qkX1_make 40 rfl) hn rfl hin <| qc_iinc (lv' := [(5, _), (0, _), (1, _), (2, _), (3, _), (4, _)]) (qc_at qkX1_make 41 rfl) rfl rfl rfl <| qc_goto (qc_at qkX1_make 42 rfl) <| ?_
      refine qc_sub [1, 2, 3, 4, 5, 0] rfl ?_
      refine ih (j + 1) _ _ _ (qc_s1x hx) (by simp only [Int32.lt_iff_toInt_lt, Int32.le_iff_toInt_le, Int32.reduceToInt] at *; omega) (by simp only [Int32.lt_iff_toInt_lt, Int32.le_iff_toInt_le, Int32.reduceToInt] at *; omega) ?_ ?_
      · rw [hL, qc_tc1 (qc_ix hxr hx) (by omega), qc_fill_s]
      · rw [hD, qc_tc1 (qc_ix hxr hx) (by omega), qc_fill_s]
set_option maxRecDepth 100000 in
set_option maxHeartbeats 4000000 in
theorem sX1_make (w : qcW) (I : Nat → Nat → Int32) (L : Nat → Nat → Int64) (D : Nat → Nat → UInt64) (R : Nat → Nat → Nat) (hn : qcNF ≤ w.1) (hR : qc_FR R) (c l n : Int32) (hc : qc_inb c 10 = true) (r : Nat) (hr : qx_fr (qc_u I 258 c.toNatClampNeg (-1)) 258 10 = r) (hf : r < 10) : qc_V 2 0 0 qmX1_make [.ref 257, .int c, .int l, .int n] w (I, L, D, R) (qc_eq none w (qc_u (qc_u (qc_u (qc_u I 258 c.toNatClampNeg (-1)) 259 r l) 260 r n) 258 c.toNatClampNeg (nI r), qc_fill L 261 (r * 16) 16 0, qc_fill D 262 (r * 16) 16 0, R)) := by
  refine qc_V.of rfl rfl (Nat.le_of_ble_eq_true rfl) (lv := [(0, .ref 257), (1, .int c), (2, .int l), (3, .int n)]) rfl ?_
  refine qc_aload_n (qc_at qkX1_make 0 rfl) rfl <| qc_gR (qc_at qkX1_make 1 rfl) hn rfl (qfr_257_0 hR) rfl <| qc_iload_n (qc_at qkX1_make 2 rfl) rfl <| qc_iconst (qc_at qkX1_make 3 rfl) <| qc_iast 10 (qc_at qkX1_make 4 rfl) hn rfl (qc_inb_in hc) <| qc_aload_n (qc_at qkX1_make 5 rfl) rfl <| qc_cVv (ci := 1) (a0 := 257) (qc_at qkX1_make 6 rfl) ql_1_43 qfX1_freeRow (qc_kf hn rfl) rfl (sX1_freeRow _ _ _ _ _ hn hR (by rw [hr]; exact hf)) rfl rfl (by decide) ⟨by decide, by decide⟩ ⟨by decide, by decide⟩ <| qc_istore (lv' := [(4, _), (0, _), (1, _), (2, _), (3, _)]) (qc_at qkX1_make 7 rfl) rfl rfl <| ?_
  rw [hr]
  have hin : vp_in (nI r) 10 := vp_in_nI hf (by decide)
  have hcl := qc_clN (j := r) (by omega)
  refine qc_aload_n (qc_at qkX1_make 8 rfl) rfl <| qc_gR (qc_at qkX1_make 9 rfl) hn rfl (qfr_257_1 hR) rfl <| qc_iload (qc_at qkX1_make 10 rfl) rfl <| qc_iload_n (qc_at qkX1_make 11 rfl) rfl <| qc_iast 10 (qc_at qkX1_make 12 rfl) hn rfl hin <| qc_aload_n (qc_at qkX1_make 13 rfl) rfl <| qc_gR (qc_at qkX1_make 14 rfl) hn rfl (qfr_257_2 hR) rfl <| qc_iload (qc_at qkX1_make 15 rfl) rfl <| qc_iload_n (qc_at qkX1_make 16 rfl) rfl <| qc_iast 10 (qc_at qkX1_make 17 rfl) hn rfl hin <| qc_iconst (qc_at qkX1_make 18 rfl) <| qc_istore (lv' := [(5, _), (4, _), (0, _), (1, _), (2, _), (3, _)]) (qc_at qkX1_make 19 rfl) rfl rfl <| ?_
  rw [hcl]
  have z := lX1_make w (qc_u (qc_u (qc_u I 258 c.toNatClampNeg (-1)) 259 r l) 260 r n) L D R hn hR c l n (nI r) hc r hf rfl 17 0 0 L D rfl (by omega) (by omega) (qc_fill_0 _ _ _ _).symm (qc_fill_0 _ _ _ _).symm
  exact qc_sub [2, 3, 4, 5, 1, 0] rfl z
def qx_cf (I : Nat → Nat → Int32) (c lane : Int32) (i : Int64) : Int32 :=
  if qc_inb c 10 = false ∨ I 258 c.toNatClampNeg = -1 then 1 else if ¬ I 259 (I 258 c.toNatClampNeg).toNatClampNeg = lane then 3 else if i < 0 ∨ ¬ i < (I 260 (I 258 c.toNatClampNeg).toNatClampNeg).toInt64 then 2 else 0
set_option maxRecDepth 100000 in
set_option maxHeartbeats 4000000 in
theorem sX1_cellFault (w : qcW) (I : Nat → Nat → Int32) (L : Nat → Nat → Int64) (D : Nat → Nat → UInt64) (R : Nat → Nat → Nat) (hn : qcNF ≤ w.1) (hR : qc_FR R) (hI : qx_ok I 258 10) (c lane : Int32) (i : Int64) : qc_V 1 0 0 qmX1_cellFault [.ref 257, .int c, .int lane, .long i] w (I, L, D, R) (qc_eq (some (.int (qx_cf I c lane i))) w (I, L, D, R)) := by
  refine qc_V.of rfl rfl (Nat.le_of_ble_eq_true rfl) (lv := [(0, .ref 257), (1, .int c), (2, .int lane), (3, .long i)]) rfl ?_
  refine qc_iload_n (qc_at qkX1_cellFault 0 rfl) rfl <| qc_cSv (qc_at qkX1_cellFault 1 rfl) ql_1_39 qfX1_isColumn (sX1_isColumn _ _ _ _ _ _) rfl rfl (by decide) ⟨by decide, by decide⟩ ⟨by decide, by decide⟩ <| ?_
  refine qc_ifB_eq (qc_at qkX1_cellFault 2 rfl) (fun h1 => ?_) (fun h1 => ?_)
  · refine qc_iconst (qc_at qkX1_cellFault 9 rfl) <| ?_
    refine qc_iret (qc_at qkX1_cellFault 10 rfl) rfl (Nat.le_refl _) (Nat.le_refl _) ?_
    refine ⟨?_, rfl, rfl⟩
    try simp only [qc_lc_lt] at *
    simp [qx_cf, *]
  · refine qc_aload_n (qc_at qkX1_cellFault 3 rfl) rfl <| qc_gR (qc_at qkX1_cellFault 4 rfl) hn rfl (qfr_257_0 hR) rfl <| qc_iload_n (qc_at qkX1_cellFault 5 rfl) rfl <| qc_iald 10 (qc_at qkX1_cellFault 6 rfl) hn rfl (qc_inb_in h1) <| qc_iconst (qc_at qkX1_cellFault 7 rfl) <| ?_
    refine qc_icmp_ne (qc_at qkX1_cellFault 8 rfl) (fun h2 => ?_) (fun h2 => ?_)
    · refine qc_aload_n (qc_at qkX1_cellFault 11 rfl) rfl <| qc_gR (qc_at qkX1_cellFault 12 rfl) hn rfl (qfr_257_1 hR) rfl <| qc_aload_n (qc_at qkX1_cellFault 13 rfl) rfl <| qc_gR (qc_at qkX1_cellFault 14 rfl) hn rfl (qfr_257_0 hR) rfl <| qc_iload_n (qc_at qkX1_cellFault 15 rfl) rfl <| qc_iald 10 (qc_at qkX1_cellFault 16 rfl) hn rfl (qc_inb_in h1) <| qc_iald 10 (qc_at qkX1_cellFault 17 rfl) hn rfl (qx_ok_in hI (by decide) (qc_cl_lt h1) h2) <| qc_iload_n (qc_at qkX1_cellFault 18 rfl) rfl <| ?_
      refine qc_icmp_eq (qc_at qkX1_cellFault 19 rfl) (fun h3 => ?_) (fun h3 => ?_)
      · refine qc_lload_n (qc_at qkX1_cellFault 22 rfl) rfl <| qc_lconst (qc_at qkX1_cellFault 23 rfl) <| qc_lcmp (qc_at qkX1_cellFault 24 rfl) <| ?_
        refine qc_if_lt (qc_at qkX1_cellFault 25 rfl) (fun h4 => ?_) (fun h4 => ?_)
        · refine qc_iconst (qc_at qkX1_cellFault 37 rfl) <| qc_goto (qc_at qkX1_cellFault 38 rfl) <| ?_
          refine qc_iret (qc_at qkX1_cellFault 40 rfl) rfl (Nat.le_refl _) (Nat.le_refl _) ?_
          refine ⟨?_, rfl, rfl⟩
          try simp only [qc_lc_lt] at *
          simp [qx_cf, *]
        · refine qc_lload_n (qc_at qkX1_cellFault 26 rfl) rfl <| qc_aload_n (qc_at qkX1_cellFault 27 rfl) rfl <| qc_gR (qc_at qkX1_cellFault 28 rfl) hn rfl (qfr_257_2 hR) rfl <| qc_aload_n (qc_at qkX1_cellFault 29 rfl) rfl <| qc_gR (qc_at qkX1_cellFault 30 rfl) hn rfl (qfr_257_0 hR) rfl <| qc_iload_n (qc_at qkX1_cellFault 31 rfl) rfl <| qc_iald 10 (qc_at qkX1_cellFault 32 rfl) hn rfl (qc_inb_in h1) <| qc_iald 10 (qc_at qkX1_cellFault 33 rfl) hn rfl (qx_ok_in hI (by decide) (qc_cl_lt h1) h2) <| qc_i2l (qc_at qkX1_cellFault 34 rfl) <| qc_lcmp (qc_at qkX1_cellFault 35 rfl) <| ?_
          refine qc_if_lt (qc_at qkX1_cellFault 36 rfl) (fun h5 => ?_) (fun h5 => ?_)
          · refine qc_iconst (qc_at qkX1_cellFault 39 rfl) <| ?_
            refine qc_iret (qc_at qkX1_cellFault 40 rfl) rfl (Nat.le_refl _) (Nat.le_refl _) ?_
            refine ⟨?_, rfl, rfl⟩
            try simp only [qc_lc_lt] at *
            simp [qx_cf, *]
          · refine qc_iconst (qc_at qkX1_cellFault 37 rfl) <| qc_goto (qc_at qkX1_cellFault 38 rfl) <| ?_
            refine qc_iret (qc_at qkX1_cellFault 40 rfl) rfl (Nat.le_refl _) (Nat.le_refl _) ?_
            refine ⟨?_, rfl, rfl⟩
            try simp only [qc_lc_lt] at *
            simp [qx_cf, *]
      · refine qc_iconst (qc_at qkX1_cellFault 20 rfl) <| ?_
        refine qc_iret (qc_at qkX1_cellFault 21 rfl) rfl (Nat.le_refl _) (Nat.le_refl _) ?_
        refine ⟨?_, rfl, rfl⟩
        try simp only [qc_lc_lt] at *
        simp [qx_cf, *]
    · refine qc_iconst (qc_at qkX1_cellFault 9 rfl) <| ?_
      refine qc_iret (qc_at qkX1_cellFault 10 rfl) rfl (Nat.le_refl _) (Nat.le_refl _) ?_
      refine ⟨?_, rfl, rfl⟩
      try simp only [qc_lc_lt] at *
      simp [qx_cf, *]
def qx_nar (lane : Int32) (v : Int64) : Int64 := if lane = 0 then (if v = 0 then 0 else 1) else if lane = 1 then v.toInt32.toInt8.toInt32.toInt64 else if lane = 2 then v.toInt32.toInt16.toInt32.toInt64 else if lane = 3 then (v.toInt32.toUInt32 % 65536).toInt32.toInt64 else if lane = 4 then v.toInt32.toInt64 else v
set_option maxRecDepth 100000 in
set_option maxHeartbeats 4000000 in
theorem sX1_narrowed (w : qcW) (I : Nat → Nat → Int32) (L : Nat → Nat → Int64) (D : Nat → Nat → UInt64) (R : Nat → Nat → Nat) (lane : Int32) (v : Int64) : qc_V 0 0 0 qmX1_narrowed [.int lane, .long v] w (I, L, D, R) (qc_eq (some (.long (qx_nar lane v))) w (I, L, D, R)) := by
  refine qc_V.of rfl rfl (Nat.le_of_ble_eq_true rfl) (lv := [(0, .int lane), (1, .long v)]) rfl ?_
  refine qc_iload_n (qc_at qkX1_narrowed 0 rfl) rfl <| ?_
  refine qc_sw 5 (qc_at qkX1_narrowed 1 rfl) rfl rfl (fun j1 hj1 h1 => ?_) (fun h1 => ?_)
  · rcases (show j1 = 0 ∨ j1 = 1 ∨ j1 = 2 ∨ j1 = 3 ∨ j1 = 4 by omega) with rfl | rfl | rfl | rfl | rfl
    · refine ⟨36, rfl, ?_⟩
      replace h1 := qc_i32 (c := (0)) h1 rfl
      refine qc_lload_n (qc_at qkX1_narrowed 2 rfl) rfl <| qc_lconst (qc_at qkX1_narrowed 3 rfl) <| qc_lcmp (qc_at qkX1_narrowed 4 rfl) <| ?_
      refine qc_if_eq (qc_at qkX1_narrowed 5 rfl) (fun h2 => ?_) (fun h2 => ?_)
      · refine qc_lconst (qc_at qkX1_narrowed 8 rfl) <| ?_
        refine qc_lret (qc_at qkX1_narrowed 9 rfl) rfl (Nat.le_refl _) (Nat.le_refl _) ?_
        refine ⟨?_, rfl, rfl⟩
        first | (simp only [qc_lc_eq] at *; simp [qx_nar, *]; done) | (simp [qx_nar, *]; done) | skip
      · refine qc_lconst (qc_at qkX1_narrowed 6 rfl) <| qc_goto (qc_at qkX1_narrowed 7 rfl) <| ?_
        refine qc_lret (qc_at qkX1_narrowed 9 rfl) rfl (Nat.le_refl _) (Nat.le_refl _) ?_
        refine ⟨?_, rfl, rfl⟩
        first | (simp only [qc_lc_eq] at *; simp [qx_nar, *]; done) | (simp [qx_nar, *]; done) | skip
    · refine ⟨48, rfl, ?_⟩
      replace h1 := qc_i32 (c := (1)) h1 rfl
      refine qc_lload_n (qc_at qkX1_narrowed 10 rfl) rfl <| qc_l2i (qc_at qkX1_narrowed 11 rfl) <| qc_i2b (qc_at qkX1_narrowed 12 rfl) <| qc_i2l (qc_at qkX1_narrowed 13 rfl) <| ?_
      refine qc_lret (qc_at qkX1_narrowed 14 rfl) rfl (Nat.le_refl _) (Nat.le_refl _) ?_
      refine ⟨?_, rfl, rfl⟩
      first | (simp only [qc_lc_eq] at *; simp [qx_nar, *]; done) | (simp [qx_nar, *]; done) | skip
    · refine ⟨53, rfl, ?_⟩
      replace h1 := qc_i32 (c := (2)) h1 rfl
      refine qc_lload_n (qc_at qkX1_narrowed 15 rfl) rfl <| qc_l2i (qc_at qkX1_narrowed 16 rfl) <| qc_i2s (qc_at qkX1_narrowed 17 rfl) <| qc_i2l (qc_at qkX1_narrowed 18 rfl) <| ?_
      refine qc_lret (qc_at qkX1_narrowed 19 rfl) rfl (Nat.le_refl _) (Nat.le_refl _) ?_
      refine ⟨?_, rfl, rfl⟩
      first | (simp only [qc_lc_eq] at *; simp [qx_nar, *]; done) | (simp [qx_nar, *]; done) | skip
    · refine ⟨58, rfl, ?_⟩
      replace h1 := qc_i32 (c := (3)) h1 rfl
      refine qc_lload_n (qc_at qkX1_narrowed 20 rfl) rfl <| qc_l2i (qc_at qkX1_narrowed 21 rfl) <| qc_i2c (qc_at qkX1_narrowed 22 rfl) <| qc_i2l (qc_at qkX1_narrowed 23 rfl) <| ?_
      refine qc_lret (qc_at qkX1_narrowed 24 rfl) rfl (Nat.le_refl _) (Nat.le_refl _) ?_
      refine ⟨?_, rfl, rfl⟩
      first | (simp only [qc_lc_eq] at *; simp [qx_nar, *]; done) | (simp [qx_nar, *]; done) | skip
    · refine ⟨63, rfl, ?_⟩
      replace h1 := qc_i32 (c := (4)) h1 rfl
      refine qc_lload_n (qc_at qkX1_narrowed 25 rfl) rfl <| qc_l2i (qc_at qkX1_narrowed 26 rfl) <| qc_i2l (qc_at qkX1_narrowed 27 rfl) <| ?_
      refine qc_lret (qc_at qkX1_narrowed 28 rfl) rfl (Nat.le_refl _) (Nat.le_refl _) ?_
      refine ⟨?_, rfl, rfl⟩
      first | (simp only [qc_lc_eq] at *; simp [qx_nar, *]; done) | (simp [qx_nar, *]; done) | skip
  · refine ⟨67, rfl, ?_⟩
    refine qc_lload_n (qc_at qkX1_narrowed 29 rfl) rfl <| ?_
    refine qc_lret (qc_at qkX1_narrowed 30 rfl) rfl (Nat.le_refl _) (Nat.le_refl _) ?_
    refine ⟨?_, rfl, rfl⟩
    unfold qx_nar
    rw [if_neg (fun e => by rw [e] at h1; revert h1; decide), if_neg (fun e => by rw [e] at h1; revert h1; decide), if_neg (fun e => by rw [e] at h1; revert h1; decide), if_neg (fun e => by rw [e] at h1; revert h1; decide), if_neg (fun e => by rw [e] at h1; revert h1; decide)]
set_option maxRecDepth 100000 in
set_option maxHeartbeats 4000000 in
theorem sX1_wholeAt (w : qcW) (I : Nat → Nat → Int32) (L : Nat → Nat → Int64) (D : Nat → Nat → UInt64) (R : Nat → Nat → Nat) (hn : qcNF ≤ w.1) (hR : qc_FR R) (c i : Int32) (r j : Nat) (hc : qc_inb c 10 = true) (hr : I 258 c.toNatClampNeg = nI r) (hr2 : r < 10) (hi : i = nI j) (hj : j < 16) : qc_V 0 0 0 qmX1_wholeAt [.ref 257, .int c, .int i] w (I, L, D, R) (qc_eq (some (.long (L 261 (r * 16 + j)))) w (I, L, D, R)) := by
  have hin : vp_in (I 258 c.toNatClampNeg * 16 + i) 160 := by rw [qc_ix hr hi]; exact vp_in_nI (by omega) (by decide)
  have hcl := qc_tc1 (qc_ix hr hi) (by omega)
  refine qc_V.of rfl rfl (Nat.le_of_ble_eq_true rfl) (lv := [(0, .ref 257), (1, .int c), (2, .int i)]) rfl ?_
  refine qc_aload_n (qc_at qkX1_wholeAt 0 rfl) rfl <| qc_gR (qc_at qkX1_wholeAt 1 rfl) hn rfl (qfr_257_3 hR) rfl <| qc_aload_n (qc_at qkX1_wholeAt 2 rfl) rfl <| qc_gR (qc_at qkX1_wholeAt 3 rfl) hn rfl (qfr_257_0 hR) rfl <| qc_iload_n (qc_at qkX1_wholeAt 4 rfl) rfl <| qc_iald 10 (qc_at qkX1_wholeAt 5 rfl) hn rfl (qc_inb_in hc) <| qc_bipush (qc_at qkX1_wholeAt 6 rfl) <| qc_imul (qc_at qkX1_wholeAt 7 rfl) <| qc_iload_n (qc_at qkX1_wholeAt 8 rfl) rfl <| qc_iadd (qc_at qkX1_wholeAt 9 rfl) <| qc_lald 160 (qc_at qkX1_wholeAt 10 rfl) hn rfl hin <| ?_
  refine qc_lret (qc_at qkX1_wholeAt 11 rfl) rfl (Nat.le_refl _) (Nat.le_refl _) ?_
  rw [hcl]
  exact qc_eq.rf _ _ _
set_option maxRecDepth 100000 in
set_option maxHeartbeats 4000000 in
theorem sX1_realAt (w : qcW) (I : Nat → Nat → Int32) (L : Nat → Nat → Int64) (D : Nat → Nat → UInt64) (R : Nat → Nat → Nat) (hn : qcNF ≤ w.1) (hR : qc_FR R) (c i : Int32) (r j : Nat) (hc : qc_inb c 10 = true) (hr : I 258 c.toNatClampNeg = nI r) (hr2 : r < 10) (hi : i = nI j) (hj : j < 16) : qc_V 0 0 0 qmX1_realAt [.ref 257, .int c, .int i] w (I, L, D, R) (qc_eq (some (.double (D 262 (r * 16 + j)))) w (I, L, D, R)) := by
  have hin : vp_in (I 258 c.toNatClampNeg * 16 + i) 160 := by rw [qc_ix hr hi]; exact vp_in_nI (by omega) (by decide)
  have hcl := qc_tc1 (qc_ix hr hi) (by omega)
  refine qc_V.of rfl rfl (Nat.le_of_ble_eq_true rfl) (lv := [(0, .ref 257), (1, .int c), (2, .int i)]) rfl ?_
  refine qc_aload_n (qc_at qkX1_realAt 0 rfl) rfl <| qc_gR (qc_at qkX1_realAt 1 rfl) hn rfl (qfr_257_4 hR) rfl <| qc_aload_n (qc_at qkX1_realAt 2 rfl) rfl <| qc_gR (qc_at qkX1_realAt 3 rfl) hn rfl (qfr_257_0 hR) rfl <| qc_iload_n (qc_at qkX1_realAt 4 rfl) rfl <| qc_iald 10 (qc_at qkX1_realAt 5 rfl) hn rfl (qc_inb_in hc) <| qc_bipush (qc_at qkX1_realAt 6 rfl) <| qc_imul (qc_at qkX1_realAt 7 rfl) <| qc_iload_n (qc_at qkX1_realAt 8 rfl) rfl <| qc_iadd (qc_at qkX1_realAt 9 rfl) <| qc_dald 160 (qc_at qkX1_realAt 10 rfl) hn rfl hin <| ?_
  refine qc_dret (qc_at qkX1_realAt 11 rfl) rfl (Nat.le_refl _) (Nat.le_refl _) ?_
  rw [hcl]
  exact qc_eq.rf _ _ _
set_option maxRecDepth 100000 in
set_option maxHeartbeats 4000000 in
theorem sX1_setWhole (w : qcW) (I : Nat → Nat → Int32) (L : Nat → Nat → Int64) (D : Nat → Nat → UInt64) (R : Nat → Nat → Nat) (hn : qcNF ≤ w.1) (hR : qc_FR R) (c i : Int32) (v : Int64) (r j : Nat) (hc : qc_inb c 10 = true) (hr : I 258 c.toNatClampNeg = nI r) (hr2 : r < 10) (hi : i = nI j) (hj : j < 16) : qc_V 0 0 0 qmX1_setWhole [.ref 257, .int c, .int i, .long v] w (I, L, D, R) (qc_eq none w (I, qc_u L 261 (r * 16 + j) v, D, R)) := by
  have hin : vp_in (I 258 c.toNatClampNeg * 16 + i) 160 := by rw [qc_ix hr hi]; exact vp_in_nI (by omega) (by decide)
  have hcl := qc_tc1 (qc_ix hr hi) (by omega)
  refine qc_V.of rfl rfl (Nat.le_of_ble_eq_true rfl) (lv := [(0, .ref 257), (1, .int c), (2, .int i), (3, .long v)]) rfl ?_
  refine qc_aload_n (qc_at qkX1_setWhole 0 rfl) rfl <| qc_gR (qc_at qkX1_setWhole 1 rfl) hn rfl (qfr_257_3 hR) rfl <| qc_aload_n (qc_at qkX1_setWhole 2 rfl) rfl <| qc_gR (qc_at qkX1_setWhole 3 rfl) hn rfl (qfr_257_0 hR) rfl <| qc_iload_n (qc_at qkX1_setWhole 4 rfl) rfl <| qc_iald 10 (qc_at qkX1_setWhole 5 rfl) hn rfl (qc_inb_in hc) <| qc_bipush (qc_at qkX1_setWhole 6 rfl) <| qc_imul (qc_at qkX1_setWhole 7 rfl) <| qc_iload_n (qc_at qkX1_setWhole 8 rfl) rfl <| qc_iadd (qc_at qkX1_setWhole 9 rfl) <| qc_lload_n (qc_at qkX1_setWhole 10 rfl) rfl <| qc_last 160 (qc_at qkX1_setWhole 11 rfl) hn rfl hin <| ?_
  refine qc_vret (qc_at qkX1_setWhole 12 rfl) rfl (Nat.le_refl _) (Nat.le_refl _) ?_
  rw [hcl]
  exact qc_eq.rf _ _ _
set_option maxRecDepth 100000 in
set_option maxHeartbeats 4000000 in
theorem sX1_setReal (w : qcW) (I : Nat → Nat → Int32) (L : Nat → Nat → Int64) (D : Nat → Nat → UInt64) (R : Nat → Nat → Nat) (hn : qcNF ≤ w.1) (hR : qc_FR R) (c i : Int32) (v : UInt64) (r j : Nat) (hc : qc_inb c 10 = true) (hr : I 258 c.toNatClampNeg = nI r) (hr2 : r < 10) (hi : i = nI j) (hj : j < 16) : qc_V 0 0 0 qmX1_setReal [.ref 257, .int c, .int i, .double v] w (I, L, D, R) (qc_eq none w (I, L, qc_u D 262 (r * 16 + j) v, R)) := by
  have hin : vp_in (I 258 c.toNatClampNeg * 16 + i) 160 := by rw [qc_ix hr hi]; exact vp_in_nI (by omega) (by decide)
  have hcl := qc_tc1 (qc_ix hr hi) (by omega)
  refine qc_V.of rfl rfl (Nat.le_of_ble_eq_true rfl) (lv := [(0, .ref 257), (1, .int c), (2, .int i), (3, .double v)]) rfl ?_
  refine qc_aload_n (qc_at qkX1_setReal 0 rfl) rfl <| qc_gR (qc_at qkX1_setReal 1 rfl) hn rfl (qfr_257_4 hR) rfl <| qc_aload_n (qc_at qkX1_setReal 2 rfl) rfl <| qc_gR (qc_at qkX1_setReal 3 rfl) hn rfl (qfr_257_0 hR) rfl <| qc_iload_n (qc_at qkX1_setReal 4 rfl) rfl <| qc_iald 10 (qc_at qkX1_setReal 5 rfl) hn rfl (qc_inb_in hc) <| qc_bipush (qc_at qkX1_setReal 6 rfl) <| qc_imul (qc_at qkX1_setReal 7 rfl) <| qc_iload_n (qc_at qkX1_setReal 8 rfl) rfl <| qc_iadd (qc_at qkX1_setReal 9 rfl) <| qc_dload_n (qc_at qkX1_setReal 10 rfl) rfl <| qc_dast 160 (qc_at qkX1_setReal 11 rfl) hn rfl hin <| ?_
  refine qc_vret (qc_at qkX1_setReal 12 rfl) rfl (Nat.le_refl _) (Nat.le_refl _) ?_
  rw [hcl]
  exact qc_eq.rf _ _ _
set_option maxRecDepth 100000 in
set_option maxHeartbeats 4000000 in
theorem sX10_hasRoom (w : qcW) (I : Nat → Nat → Int32) (L : Nat → Nat → Int64) (D : Nat → Nat → UInt64) (R : Nat → Nat → Nat) (hn : qcNF ≤ w.1) (hR : qc_FR R) (n : Nat) (hl : I 265 1 = nI n) (h : n ≤ 400) : qc_V 0 0 0 qmX10_hasRoom [.ref 265] w (I, L, D, R) (qc_eq (some (.int (qc_b (decide (n + 20 ≤ 400))))) w (I, L, D, R)) := by
  have t1 : (I 265 1 + 20).toInt = ((n + 20 : Nat) : Int) := by rw [hl, show (20 : Int32) = nI 20 from rfl, nI_add]; exact nI_toInt (by omega)
  refine qc_V.of rfl rfl (Nat.le_of_ble_eq_true rfl) (lv := [(0, .ref 265)]) rfl ?_
  refine qc_aload_n (qc_at qkX10_hasRoom 0 rfl) rfl <| qc_gI (qc_at qkX10_hasRoom 1 rfl) hn rfl <| qc_bipush (qc_at qkX10_hasRoom 2 rfl) <| qc_iadd (qc_at qkX10_hasRoom 3 rfl) <| qc_sipush (qc_at qkX10_hasRoom 4 rfl) <| ?_
  refine qc_icmp_gt (qc_at qkX10_hasRoom 5 rfl) (fun h1 => ?_) (fun h1 => ?_)
  · refine qc_iconst (qc_at qkX10_hasRoom 8 rfl) <| ?_
    refine qc_zret (qc_at qkX10_hasRoom 9 rfl) rfl (by first | exact qc_b01 _ | decide) (Nat.le_refl _) (Nat.le_refl _) ?_
    refine ⟨?_, rfl, rfl⟩
    first | (rw [decide_eq_true (show n + 20 ≤ 400 by simp only [Int32.lt_iff_toInt_lt, Int32.le_iff_toInt_le, Int32.reduceToInt] at *; omega)]; rfl) | (rw [decide_eq_false (show ¬ n + 20 ≤ 400 by simp only [Int32.lt_iff_toInt_lt, Int32.le_iff_toInt_le, Int32.reduceToInt] at *; omega)]; rfl)
  · refine qc_iconst (qc_at qkX10_hasRoom 6 rfl) <| qc_goto (qc_at qkX10_hasRoom 7 rfl) <| ?_
    refine qc_zret (qc_at qkX10_hasRoom 9 rfl) rfl (by first | exact qc_b01 _ | decide) (Nat.le_refl _) (Nat.le_refl _) ?_
    refine ⟨?_, rfl, rfl⟩
    first | (rw [decide_eq_true (show n + 20 ≤ 400 by simp only [Int32.lt_iff_toInt_lt, Int32.le_iff_toInt_le, Int32.reduceToInt] at *; omega)]; rfl) | (rw [decide_eq_false (show ¬ n + 20 ≤ 400 by simp only [Int32.lt_iff_toInt_lt, Int32.le_iff_toInt_le, Int32.reduceToInt] at *; omega)]; rfl)
set_option maxRecDepth 100000 in
set_option maxHeartbeats 4000000 in
theorem sX10_cut (w : qcW) (I : Nat → Nat → Int32) (L : Nat → Nat → Int64) (D : Nat → Nat → UInt64) (R : Nat → Nat → Nat) (hn : qcNF ≤ w.1) (hR : qc_FR R) (n : Nat) (hl : I 265 1 = nI n) (h : n ≤ 400) (x : Int32) : qc_V 0 0 0 qmX10_cut [.ref 265, .int x] w (I, L, D, R) (qc_eq (some (.int (qc_b (qc_inb x (n + 1))))) w (cond (qc_inb x (n + 1)) (qc_u I 265 1 x) I, L, D, R)) := by
  have t1 : (I 265 1).toInt = (n : Int) := by rw [hl]; exact nI_toInt (by omega)
  refine qc_V.of rfl rfl (Nat.le_of_ble_eq_true rfl) (lv := [(0, .ref 265), (1, .int x)]) rfl ?_
  refine qc_iload_n (qc_at qkX10_cut 0 rfl) rfl <| ?_
  refine qc_if_lt (qc_at qkX10_cut 1 rfl) (fun h1 => ?_) (fun h1 => ?_)
  · refine qc_iconst (qc_at qkX10_cut 6 rfl) <| ?_
    refine qc_zret (qc_at qkX10_cut 7 rfl) rfl (by first | exact qc_b01 _ | decide) (Nat.le_refl _) (Nat.le_refl _) ?_
    first | (rw [qc_ib0 (by simp only [Int32.lt_iff_toInt_lt, Int32.le_iff_toInt_le, Int32.reduceToInt] at *; omega)]; exact ⟨rfl, rfl, rfl⟩) | (rw [qc_ib1 (by simp only [Int32.lt_iff_toInt_lt, Int32.le_iff_toInt_le, Int32.reduceToInt] at *; omega) (by simp only [Int32.lt_iff_toInt_lt, Int32.le_iff_toInt_le, Int32.reduceToInt] at *; omega)]; exact ⟨rfl, rfl, rfl⟩)
  · refine qc_iload_n (qc_at qkX10_cut 2 rfl) rfl <| qc_aload_n (qc_at qkX10_cut 3 rfl) rfl <| qc_gI (qc_at qkX10_cut 4 rfl) hn rfl <| ?_
    refine qc_icmp_le (qc_at qkX10_cut 5 rfl) (fun h2 => ?_) (fun h2 => ?_)
    · refine qc_aload_n (qc_at qkX10_cut 8 rfl) rfl <| qc_iload_n (qc_at qkX10_cut 9 rfl) rfl <| qc_pI (qc_at qkX10_cut 10 rfl) hn rfl <| qc_iconst (qc_at qkX10_cut 11 rfl) <| ?_
      refine qc_zret (qc_at qkX10_cut 12 rfl) rfl (by first | exact qc_b01 _ | decide) (Nat.le_refl _) (Nat.le_refl _) ?_
      first | (rw [qc_ib0 (by simp only [Int32.lt_iff_toInt_lt, Int32.le_iff_toInt_le, Int32.reduceToInt] at *; omega)]; exact ⟨rfl, rfl, rfl⟩) | (rw [qc_ib1 (by simp only [Int32.lt_iff_toInt_lt, Int32.le_iff_toInt_le, Int32.reduceToInt] at *; omega) (by simp only [Int32.lt_iff_toInt_lt, Int32.le_iff_toInt_le, Int32.reduceToInt] at *; omega)]; exact ⟨rfl, rfl, rfl⟩)
    · refine qc_iconst (qc_at qkX10_cut 6 rfl) <| ?_
      refine qc_zret (qc_at qkX10_cut 7 rfl) rfl (by first | exact qc_b01 _ | decide) (Nat.le_refl _) (Nat.le_refl _) ?_
      first | (rw [qc_ib0 (by simp only [Int32.lt_iff_toInt_lt, Int32.le_iff_toInt_le, Int32.reduceToInt] at *; omega)]; exact ⟨rfl, rfl, rfl⟩) | (rw [qc_ib1 (by simp only [Int32.lt_iff_toInt_lt, Int32.le_iff_toInt_le, Int32.reduceToInt] at *; omega) (by simp only [Int32.lt_iff_toInt_lt, Int32.le_iff_toInt_le, Int32.reduceToInt] at *; omega)]; exact ⟨rfl, rfl, rfl⟩)
set_option maxRecDepth 100000 in
set_option maxHeartbeats 4000000 in
theorem sX10_at (w : qcW) (I : Nat → Nat → Int32) (L : Nat → Nat → Int64) (D : Nat → Nat → UInt64) (R : Nat → Nat → Nat) (hn : qcNF ≤ w.1) (hR : qc_FR R) (n : Nat) (hl : I 265 1 = nI n) (h : n ≤ 400) (x : Int32) : qc_V 0 0 0 qmX10_at [.ref 265, .int x] w (I, L, D, R) (qc_eq (some (.int (cond (qc_inb x n) (I 266 x.toNatClampNeg) (-1)))) w (I, L, D, R)) := by
  have t1 : (I 265 1).toInt = (n : Int) := by rw [hl]; exact nI_toInt (by omega)
  refine qc_V.of rfl rfl (Nat.le_of_ble_eq_true rfl) (lv := [(0, .ref 265), (1, .int x)]) rfl ?_
  refine qc_iload_n (qc_at qkX10_at 0 rfl) rfl <| ?_
  refine qc_if_lt (qc_at qkX10_at 1 rfl) (fun h1 => ?_) (fun h1 => ?_)
  · refine qc_iconst (qc_at qkX10_at 11 rfl) <| ?_
    refine qc_iret (qc_at qkX10_at 12 rfl) rfl (Nat.le_refl _) (Nat.le_refl _) ?_
    first | (rw [qc_ib0 (by simp only [Int32.lt_iff_toInt_lt, Int32.le_iff_toInt_le, Int32.reduceToInt] at *; omega)]; exact ⟨rfl, rfl, rfl⟩) | (rw [qc_ib1 (by simp only [Int32.lt_iff_toInt_lt, Int32.le_iff_toInt_le, Int32.reduceToInt] at *; omega) (by simp only [Int32.lt_iff_toInt_lt, Int32.le_iff_toInt_le, Int32.reduceToInt] at *; omega)]; exact ⟨rfl, rfl, rfl⟩)
  · refine qc_iload_n (qc_at qkX10_at 2 rfl) rfl <| qc_aload_n (qc_at qkX10_at 3 rfl) rfl <| qc_gI (qc_at qkX10_at 4 rfl) hn rfl <| ?_
    refine qc_icmp_ge (qc_at qkX10_at 5 rfl) (fun h2 => ?_) (fun h2 => ?_)
    · refine qc_iconst (qc_at qkX10_at 11 rfl) <| ?_
      refine qc_iret (qc_at qkX10_at 12 rfl) rfl (Nat.le_refl _) (Nat.le_refl _) ?_
      first | (rw [qc_ib0 (by simp only [Int32.lt_iff_toInt_lt, Int32.le_iff_toInt_le, Int32.reduceToInt] at *; omega)]; exact ⟨rfl, rfl, rfl⟩) | (rw [qc_ib1 (by simp only [Int32.lt_iff_toInt_lt, Int32.le_iff_toInt_le, Int32.reduceToInt] at *; omega) (by simp only [Int32.lt_iff_toInt_lt, Int32.le_iff_toInt_le, Int32.reduceToInt] at *; omega)]; exact ⟨rfl, rfl, rfl⟩)
    · refine qc_aload_n (qc_at qkX10_at 6 rfl) rfl <| qc_gR (qc_at qkX10_at 7 rfl) hn rfl (qfr_265_0 hR) rfl <| qc_iload_n (qc_at qkX10_at 8 rfl) rfl <| qc_iald 400 (qc_at qkX10_at 9 rfl) hn rfl (qc_inI (by simp only [Int32.lt_iff_toInt_lt, Int32.le_iff_toInt_le, Int32.reduceToInt] at *; omega) (by simp only [Int32.lt_iff_toInt_lt, Int32.le_iff_toInt_le, Int32.reduceToInt] at *; omega)) <| qc_goto (qc_at qkX10_at 10 rfl) <| ?_
      refine qc_iret (qc_at qkX10_at 12 rfl) rfl (Nat.le_refl _) (Nat.le_refl _) ?_
      first | (rw [qc_ib0 (by simp only [Int32.lt_iff_toInt_lt, Int32.le_iff_toInt_le, Int32.reduceToInt] at *; omega)]; exact ⟨rfl, rfl, rfl⟩) | (rw [qc_ib1 (by simp only [Int32.lt_iff_toInt_lt, Int32.le_iff_toInt_le, Int32.reduceToInt] at *; omega) (by simp only [Int32.lt_iff_toInt_lt, Int32.le_iff_toInt_le, Int32.reduceToInt] at *; omega)]; exact ⟨rfl, rfl, rfl⟩)
