set_option maxRecDepth 100000 in
set_option maxHeartbeats 4000000 in
theorem sX1_isColumn (w : qcW) (I : Nat → Nat → Int32) (L : Nat → Nat → Int64) (D : Nat → Nat → UInt64) (R : Nat → Nat → Nat) (c : Int32) : qc_V 0 0 0 qmX1_isColumn [.int c] w (I, L, D, R) (qc_eq (some (.int (qc_b (decide (0 ≤ c) && decide (c < 10))))) w (I, L, D, R)) := by
  refine qc_V.of rfl rfl (by decide) (lv := [(0, .int c)]) rfl ?_
  refine qc_iload_n (qc_at qkX1_isColumn 0 rfl) rfl <| ?_
  refine qc_if_lt (qc_at qkX1_isColumn 1 rfl) (fun h1 => ?_) (fun h1 => ?_)
  · refine qc_iconst (qc_at qkX1_isColumn 7 rfl) <| ?_
    refine qc_zret (qc_at qkX1_isColumn 8 rfl) rfl (by first | exact qc_b01 _ | decide) (Nat.le_refl _) (Nat.le_refl _) ?_
    refine ⟨?_, rfl, rfl⟩
    simp [qc_b, *]
  · refine qc_iload_n (qc_at qkX1_isColumn 2 rfl) rfl <| qc_bipush (qc_at qkX1_isColumn 3 rfl) <| ?_
    refine qc_icmp_ge (qc_at qkX1_isColumn 4 rfl) (fun h2 => ?_) (fun h2 => ?_)
    · refine qc_iconst (qc_at qkX1_isColumn 7 rfl) <| ?_
      refine qc_zret (qc_at qkX1_isColumn 8 rfl) rfl (by first | exact qc_b01 _ | decide) (Nat.le_refl _) (Nat.le_refl _) ?_
      refine ⟨?_, rfl, rfl⟩
      simp [qc_b, *]
    · refine qc_iconst (qc_at qkX1_isColumn 5 rfl) <| qc_goto (qc_at qkX1_isColumn 6 rfl) <| ?_
      refine qc_zret (qc_at qkX1_isColumn 8 rfl) rfl (by first | exact qc_b01 _ | decide) (Nat.le_refl _) (Nat.le_refl _) ?_
      refine ⟨?_, rfl, rfl⟩
      simp [qc_b, *]
set_option maxRecDepth 100000 in
set_option maxHeartbeats 4000000 in
theorem sX1_isLane (w : qcW) (I : Nat → Nat → Int32) (L : Nat → Nat → Int64) (D : Nat → Nat → UInt64) (R : Nat → Nat → Nat) (c : Int32) : qc_V 0 0 0 qmX1_isLane [.int c] w (I, L, D, R) (qc_eq (some (.int (qc_b (decide (0 ≤ c) && decide (c < 8))))) w (I, L, D, R)) := by
  refine qc_V.of rfl rfl (by decide) (lv := [(0, .int c)]) rfl ?_
  refine qc_iload_n (qc_at qkX1_isLane 0 rfl) rfl <| ?_
  refine qc_if_lt (qc_at qkX1_isLane 1 rfl) (fun h1 => ?_) (fun h1 => ?_)
  · refine qc_iconst (qc_at qkX1_isLane 7 rfl) <| ?_
    refine qc_zret (qc_at qkX1_isLane 8 rfl) rfl (by first | exact qc_b01 _ | decide) (Nat.le_refl _) (Nat.le_refl _) ?_
    refine ⟨?_, rfl, rfl⟩
    simp [qc_b, *]
  · refine qc_iload_n (qc_at qkX1_isLane 2 rfl) rfl <| qc_bipush (qc_at qkX1_isLane 3 rfl) <| ?_
    refine qc_icmp_ge (qc_at qkX1_isLane 4 rfl) (fun h2 => ?_) (fun h2 => ?_)
    · refine qc_iconst (qc_at qkX1_isLane 7 rfl) <| ?_
      refine qc_zret (qc_at qkX1_isLane 8 rfl) rfl (by first | exact qc_b01 _ | decide) (Nat.le_refl _) (Nat.le_refl _) ?_
      refine ⟨?_, rfl, rfl⟩
      simp [qc_b, *]
    · refine qc_iconst (qc_at qkX1_isLane 5 rfl) <| qc_goto (qc_at qkX1_isLane 6 rfl) <| ?_
      refine qc_zret (qc_at qkX1_isLane 8 rfl) rfl (by first | exact qc_b01 _ | decide) (Nat.le_refl _) (Nat.le_refl _) ?_
      refine ⟨?_, rfl, rfl⟩
      simp [qc_b, *]
set_option maxRecDepth 100000 in
set_option maxHeartbeats 4000000 in
theorem sX11_objects (w : qcW) (I : Nat → Nat → Int32) (L : Nat → Nat → Int64) (D : Nat → Nat → UInt64) (R : Nat → Nat → Nat) (hn : qcNF ≤ w.1) (n : Int32) : qc_V 0 0 0 qmX11_objects [.ref 256, .int n] w (I, L, D, R) (qc_eq (some (.int (if 0 ≤ n ∧ n ≤ 16 then I 256 7 else -1))) w (if 0 ≤ n ∧ n ≤ 16 then qc_u I 256 7 n else I, L, D, R)) := by
  refine qc_V.of rfl rfl (by decide) (lv := [(0, .ref 256), (1, .int n)]) rfl ?_
  refine qc_iload_n (qc_at qkX11_objects 0 rfl) rfl <| ?_
  refine qc_if_lt (qc_at qkX11_objects 1 rfl) (fun h1 => ?_) (fun h1 => ?_)
  · refine qc_iconst (qc_at qkX11_objects 5 rfl) <| ?_
    refine qc_iret (qc_at qkX11_objects 6 rfl) rfl (Nat.le_refl _) (Nat.le_refl _) ?_
    sorry
  · refine qc_iload_n (qc_at qkX11_objects 2 rfl) rfl <| qc_bipush (qc_at qkX11_objects 3 rfl) <| ?_
    refine qc_icmp_le (qc_at qkX11_objects 4 rfl) (fun h2 => ?_) (fun h2 => ?_)
    · refine qc_aload_n (qc_at qkX11_objects 7 rfl) rfl <| qc_gI (qc_at qkX11_objects 8 rfl) hn rfl <| qc_istore_n (lv' := [(2, _), (0, _), (1, _)]) (qc_at qkX11_objects 9 rfl) rfl rfl <| qc_aload_n (qc_at qkX11_objects 10 rfl) rfl <| qc_iload_n (qc_at qkX11_objects 11 rfl) rfl <| qc_pI (qc_at qkX11_objects 12 rfl) hn rfl <| qc_iload_n (qc_at qkX11_objects 13 rfl) rfl <| ?_
      refine qc_iret (qc_at qkX11_objects 14 rfl) rfl (Nat.le_refl _) (Nat.le_refl _) ?_
      sorry
    · refine qc_iconst (qc_at qkX11_objects 5 rfl) <| ?_
      refine qc_iret (qc_at qkX11_objects 6 rfl) rfl (Nat.le_refl _) (Nat.le_refl _) ?_
      sorry
set_option maxRecDepth 100000 in
set_option maxHeartbeats 4000000 in
theorem sX11_fault (w : qcW) (I : Nat → Nat → Int32) (L : Nat → Nat → Int64) (D : Nat → Nat → UInt64) (R : Nat → Nat → Nat) (hn : qcNF ≤ w.1) : qc_V 0 0 0 qmX11_fault [.ref 256] w (I, L, D, R) (qc_eq (some (.int (I 256 8))) w (I, L, D, R)) := by
  refine qc_V.of rfl rfl (by decide) (lv := [(0, .ref 256)]) rfl ?_
  refine qc_aload_n (qc_at qkX11_fault 0 rfl) rfl <| qc_gI (qc_at qkX11_fault 1 rfl) hn rfl <| ?_
  refine qc_iret (qc_at qkX11_fault 2 rfl) rfl (Nat.le_refl _) (Nat.le_refl _) ?_
  exact qc_eq.rf _ _ _
