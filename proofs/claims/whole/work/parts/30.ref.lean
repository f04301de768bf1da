/-! the reference: its columns, its tape, its simple calls -/
def qm_in (v lo hi : Int64) : Bool := decide (lo ≤ v) && decide (v ≤ hi)
theorem qm_in_c (c : Int32) (m : Int64) {n : Nat} (hm : m.toInt = (n : Int) - 1) : qm_in c.toInt64 0 m = qc_inb c n := by
  unfold qm_in qc_inb
  congr 1
  · rw [decide_eq_decide, Int64.le_iff_toInt_le, Int32.toInt_toInt64]; exact Iff.rfl
  · rw [decide_eq_decide, Int64.le_iff_toInt_le, Int32.toInt_toInt64, hm]; omega
set_option maxRecDepth 100000 in
set_option maxHeartbeats 4000000 in
theorem sX12_in (w : qcW) (I : Nat → Nat → Int32) (L : Nat → Nat → Int64) (D : Nat → Nat → UInt64) (R : Nat → Nat → Nat) (v lo hi : Int64) : qc_V 0 0 0 qmX12_in [.long v, .long lo, .long hi] w (I, L, D, R) (qc_eq (some (.int (qc_b (qm_in v lo hi)))) w (I, L, D, R)) := by
  refine qc_V.of rfl rfl (Nat.le_of_ble_eq_true rfl) (lv := [(0, .long v), (2, .long lo), (4, .long hi)]) rfl ?_
  refine qc_lload_n (qc_at qkX12_in 0 rfl) rfl <| qc_lload_n (qc_at qkX12_in 1 rfl) rfl <| qc_lcmp (qc_at qkX12_in 2 rfl) <| ?_
  refine qc_if_lt (qc_at qkX12_in 3 rfl) (fun h1 => ?_) (fun h1 => ?_)
  · refine qc_iconst (qc_at qkX12_in 10 rfl) <| ?_
    refine qc_zret (qc_at qkX12_in 11 rfl) rfl (by first | exact qc_b01 _ | decide) (Nat.le_refl _) (Nat.le_refl _) ?_
    refine ⟨?_, rfl, rfl⟩
    simp only [qc_lc_lt, qc_lc_gt, Int64.not_lt] at *
    unfold qm_in
    first | (rw [decide_eq_true h1, decide_eq_true h2]; rfl) | (rw [decide_eq_false (Int64.not_le.mpr h1)]; rfl) | (rw [decide_eq_false (Int64.not_le.mpr h2), Bool.and_false]; rfl)
  · refine qc_lload_n (qc_at qkX12_in 4 rfl) rfl <| qc_lload (qc_at qkX12_in 5 rfl) rfl <| qc_lcmp (qc_at qkX12_in 6 rfl) <| ?_
    refine qc_if_gt (qc_at qkX12_in 7 rfl) (fun h2 => ?_) (fun h2 => ?_)
    · refine qc_iconst (qc_at qkX12_in 10 rfl) <| ?_
      refine qc_zret (qc_at qkX12_in 11 rfl) rfl (by first | exact qc_b01 _ | decide) (Nat.le_refl _) (Nat.le_refl _) ?_
      refine ⟨?_, rfl, rfl⟩
      simp only [qc_lc_lt, qc_lc_gt, Int64.not_lt] at *
      unfold qm_in
      first | (rw [decide_eq_true h1, decide_eq_true h2]; rfl) | (rw [decide_eq_false (Int64.not_le.mpr h1)]; rfl) | (rw [decide_eq_false (Int64.not_le.mpr h2), Bool.and_false]; rfl)
    · refine qc_iconst (qc_at qkX12_in 8 rfl) <| qc_goto (qc_at qkX12_in 9 rfl) <| ?_
      refine qc_zret (qc_at qkX12_in 11 rfl) rfl (by first | exact qc_b01 _ | decide) (Nat.le_refl _) (Nat.le_refl _) ?_
      refine ⟨?_, rfl, rfl⟩
      simp only [qc_lc_lt, qc_lc_gt, Int64.not_lt] at *
      unfold qm_in
      first | (rw [decide_eq_true h1, decide_eq_true h2]; rfl) | (rw [decide_eq_false (Int64.not_le.mpr h1)]; rfl) | (rw [decide_eq_false (Int64.not_le.mpr h2), Bool.and_false]; rfl)
set_option maxRecDepth 100000 in
set_option maxHeartbeats 4000000 in
theorem sX12_isColumn (w : qcW) (I : Nat → Nat → Int32) (L : Nat → Nat → Int64) (D : Nat → Nat → UInt64) (R : Nat → Nat → Nat) (c : Int32) : qc_V 1 0 0 qmX12_isColumn [.int c] w (I, L, D, R) (qc_eq (some (.int (qc_b (qc_inb c 10)))) w (I, L, D, R)) := by
  refine qc_V.of rfl rfl (Nat.le_of_ble_eq_true rfl) (lv := [(0, .int c)]) rfl ?_
  refine qc_iload_n (qc_at qkX12_isColumn 0 rfl) rfl <| qc_i2l (qc_at qkX12_isColumn 1 rfl) <| qc_lconst (qc_at qkX12_isColumn 2 rfl) <| qc_ldc2l (qc_at qkX12_isColumn 3 rfl) <| qc_cSv (qc_at qkX12_isColumn 4 rfl) ql_12_162 qfX12_in (sX12_in _ _ _ _ _ _ _ _) rfl rfl (by decide) ⟨by decide, by decide⟩ ⟨by decide, by decide⟩ <| ?_
  refine qc_zret (qc_at qkX12_isColumn 5 rfl) rfl (by first | exact qc_b01 _ | decide) (Nat.le_refl _) (Nat.le_refl _) ?_
  rw [qm_in_c c 9 (n := 10) rfl]
  exact qc_eq.rf _ _ _
set_option maxRecDepth 100000 in
set_option maxHeartbeats 4000000 in
theorem sX12_objects (w : qcW) (I : Nat → Nat → Int32) (L : Nat → Nat → Int64) (D : Nat → Nat → UInt64) (R : Nat → Nat → Nat) (hn : qcNF ≤ w.1) (hR : qc_FR R) (n : Int32) : qc_V 1 0 0 qmX12_objects [.ref 291, .int n] w (I, L, D, R) (qc_eq (some (.int (cond (qc_inb n 17) (I 291 0) (-1)))) w (cond (qc_inb n 17) (qc_u I 291 0 n) I, L, D, R)) := by
  refine qc_V.of rfl rfl (Nat.le_of_ble_eq_true rfl) (lv := [(0, .ref 291), (1, .int n)]) rfl ?_
  refine qc_iload_n (qc_at qkX12_objects 0 rfl) rfl <| qc_i2l (qc_at qkX12_objects 1 rfl) <| qc_lconst (qc_at qkX12_objects 2 rfl) <| qc_ldc2l (qc_at qkX12_objects 3 rfl) <| qc_cSv (qc_at qkX12_objects 4 rfl) ql_12_162 qfX12_in (sX12_in _ _ _ _ _ _ _ _) rfl rfl (by decide) ⟨by decide, by decide⟩ ⟨by decide, by decide⟩ <| ?_
  refine qc_ifB_ne (qc_at qkX12_objects 5 rfl) (fun h1 => ?_) (fun h1 => ?_)
  · refine qc_aload_n (qc_at qkX12_objects 8 rfl) rfl <| qc_gI (qc_at qkX12_objects 9 rfl) hn rfl <| qc_istore_n (lv' := [(2, _), (0, _), (1, _)]) (qc_at qkX12_objects 10 rfl) rfl rfl <| qc_aload_n (qc_at qkX12_objects 11 rfl) rfl <| qc_iload_n (qc_at qkX12_objects 12 rfl) rfl <| qc_pI (qc_at qkX12_objects 13 rfl) hn rfl <| qc_iload_n (qc_at qkX12_objects 14 rfl) rfl <| ?_
    refine qc_iret (qc_at qkX12_objects 15 rfl) rfl (Nat.le_refl _) (Nat.le_refl _) ?_
    rw [qm_in_c n 16 (n := 17) rfl] at h1
    rw [h1]
    exact ⟨rfl, rfl, rfl⟩
  · refine qc_iconst (qc_at qkX12_objects 6 rfl) <| ?_
    refine qc_iret (qc_at qkX12_objects 7 rfl) rfl (Nat.le_refl _) (Nat.le_refl _) ?_
    rw [qm_in_c n 16 (n := 17) rfl] at h1
    rw [h1]
    exact ⟨rfl, rfl, rfl⟩
set_option maxRecDepth 100000 in
set_option maxHeartbeats 4000000 in
theorem sX12_share (w : qcW) (I : Nat → Nat → Int32) (L : Nat → Nat → Int64) (D : Nat → Nat → UInt64) (R : Nat → Nat → Nat) (hn : qcNF ≤ w.1) (hR : qc_FR R) (c d : Int32) : qc_V 2 0 0 qmX12_share [.ref 291, .int c, .int d] w (I, L, D, R) (qc_eq (some (.int (cond (qc_inb c 10 && qc_inb d 10) 1 (-1)))) w (cond (qc_inb c 10 && qc_inb d 10) (qc_u I 292 c.toNatClampNeg (I 292 d.toNatClampNeg)) I, L, D, R)) := by
  refine qc_V.of rfl rfl (Nat.le_of_ble_eq_true rfl) (lv := [(0, .ref 291), (1, .int c), (2, .int d)]) rfl ?_
  refine qc_iload_n (qc_at qkX12_share 0 rfl) rfl <| qc_cSv (qc_at qkX12_share 1 rfl) ql_12_171 qfX12_isColumn (sX12_isColumn _ _ _ _ _ _) rfl rfl (by decide) ⟨by decide, by decide⟩ ⟨by decide, by decide⟩ <| ?_
  refine qc_ifB_eq (qc_at qkX12_share 2 rfl) (fun h1 => ?_) (fun h1 => ?_)
  · refine qc_iconst (qc_at qkX12_share 6 rfl) <| ?_
    refine qc_iret (qc_at qkX12_share 7 rfl) rfl (Nat.le_refl _) (Nat.le_refl _) ?_
    first | (rw [h1, h2]; exact ⟨rfl, rfl, rfl⟩) | (rw [h1]; exact ⟨rfl, rfl, rfl⟩)
  · refine qc_iload_n (qc_at qkX12_share 3 rfl) rfl <| qc_cSv (qc_at qkX12_share 4 rfl) ql_12_171 qfX12_isColumn (sX12_isColumn _ _ _ _ _ _) rfl rfl (by decide) ⟨by decide, by decide⟩ ⟨by decide, by decide⟩ <| ?_
    refine qc_ifB_ne (qc_at qkX12_share 5 rfl) (fun h2 => ?_) (fun h2 => ?_)
    · refine qc_aload_n (qc_at qkX12_share 8 rfl) rfl <| qc_gR (qc_at qkX12_share 9 rfl) hn rfl (qfr_291_1 hR) rfl <| qc_iload_n (qc_at qkX12_share 10 rfl) rfl <| qc_aload_n (qc_at qkX12_share 11 rfl) rfl <| qc_gR (qc_at qkX12_share 12 rfl) hn rfl (qfr_291_1 hR) rfl <| qc_iload_n (qc_at qkX12_share 13 rfl) rfl <| qc_iald 10 (qc_at qkX12_share 14 rfl) hn rfl (qc_inb_in h2) <| qc_iast 10 (qc_at qkX12_share 15 rfl) hn rfl (qc_inb_in h1) <| qc_iconst (qc_at qkX12_share 16 rfl) <| ?_
      refine qc_iret (qc_at qkX12_share 17 rfl) rfl (Nat.le_refl _) (Nat.le_refl _) ?_
      first | (rw [h1, h2]; exact ⟨rfl, rfl, rfl⟩) | (rw [h1]; exact ⟨rfl, rfl, rfl⟩)
    · refine qc_iconst (qc_at qkX12_share 6 rfl) <| ?_
      refine qc_iret (qc_at qkX12_share 7 rfl) rfl (Nat.le_refl _) (Nat.le_refl _) ?_
      first | (rw [h1, h2]; exact ⟨rfl, rfl, rfl⟩) | (rw [h1]; exact ⟨rfl, rfl, rfl⟩)
set_option maxRecDepth 100000 in
set_option maxHeartbeats 4000000 in
theorem sX12_drop (w : qcW) (I : Nat → Nat → Int32) (L : Nat → Nat → Int64) (D : Nat → Nat → UInt64) (R : Nat → Nat → Nat) (hn : qcNF ≤ w.1) (hR : qc_FR R) (c : Int32) : qc_V 2 0 0 qmX12_drop [.ref 291, .int c] w (I, L, D, R) (qc_eq (some (.int (cond (qc_inb c 10) (qc_b (!decide (I 292 c.toNatClampNeg = -1))) (-1)))) w (cond (qc_inb c 10) (qc_u I 292 c.toNatClampNeg (-1)) I, L, D, R)) := by
  refine qc_V.of rfl rfl (Nat.le_of_ble_eq_true rfl) (lv := [(0, .ref 291), (1, .int c)]) rfl ?_
  refine qc_iload_n (qc_at qkX12_drop 0 rfl) rfl <| qc_cSv (qc_at qkX12_drop 1 rfl) ql_12_171 qfX12_isColumn (sX12_isColumn _ _ _ _ _ _) rfl rfl (by decide) ⟨by decide, by decide⟩ ⟨by decide, by decide⟩ <| ?_
  refine qc_ifB_ne (qc_at qkX12_drop 2 rfl) (fun h1 => ?_) (fun h1 => ?_)
  · refine qc_aload_n (qc_at qkX12_drop 5 rfl) rfl <| qc_gR (qc_at qkX12_drop 6 rfl) hn rfl (qfr_291_1 hR) rfl <| qc_iload_n (qc_at qkX12_drop 7 rfl) rfl <| qc_iald 10 (qc_at qkX12_drop 8 rfl) hn rfl (qc_inb_in h1) <| qc_iconst (qc_at qkX12_drop 9 rfl) <| ?_
    refine qc_icmp_ne (qc_at qkX12_drop 10 rfl) (fun h2 => ?_) (fun h2 => ?_)
    · refine qc_iconst (qc_at qkX12_drop 13 rfl) <| qc_istore_n (lv' := [(2, _), (0, _), (1, _)]) (qc_at qkX12_drop 14 rfl) rfl rfl <| qc_aload_n (qc_at qkX12_drop 15 rfl) rfl <| qc_gR (qc_at qkX12_drop 16 rfl) hn rfl (qfr_291_1 hR) rfl <| qc_iload_n (qc_at qkX12_drop 17 rfl) rfl <| qc_iconst (qc_at qkX12_drop 18 rfl) <| qc_iast 10 (qc_at qkX12_drop 19 rfl) hn rfl (qc_inb_in h1) <| qc_iload_n (qc_at qkX12_drop 20 rfl) rfl <| ?_
      refine qc_iret (qc_at qkX12_drop 21 rfl) rfl (Nat.le_refl _) (Nat.le_refl _) ?_
      rw [h1]
      first | exact ⟨rfl, rfl, rfl⟩ | exact ⟨by simp [qc_b, *], rfl, rfl⟩
    · refine qc_iconst (qc_at qkX12_drop 11 rfl) <| qc_goto (qc_at qkX12_drop 12 rfl) <| qc_istore_n (lv' := [(2, _), (0, _), (1, _)]) (qc_at qkX12_drop 14 rfl) rfl rfl <| qc_aload_n (qc_at qkX12_drop 15 rfl) rfl <| qc_gR (qc_at qkX12_drop 16 rfl) hn rfl (qfr_291_1 hR) rfl <| qc_iload_n (qc_at qkX12_drop 17 rfl) rfl <| qc_iconst (qc_at qkX12_drop 18 rfl) <| qc_iast 10 (qc_at qkX12_drop 19 rfl) hn rfl (qc_inb_in h1) <| qc_iload_n (qc_at qkX12_drop 20 rfl) rfl <| ?_
      refine qc_iret (qc_at qkX12_drop 21 rfl) rfl (Nat.le_refl _) (Nat.le_refl _) ?_
      rw [h1]
      first | exact ⟨rfl, rfl, rfl⟩ | exact ⟨by simp [qc_b, *], rfl, rfl⟩
  · refine qc_iconst (qc_at qkX12_drop 3 rfl) <| ?_
    refine qc_iret (qc_at qkX12_drop 4 rfl) rfl (Nat.le_refl _) (Nat.le_refl _) ?_
    rw [h1]
    first | exact ⟨rfl, rfl, rfl⟩ | exact ⟨by simp [qc_b, *], rfl, rfl⟩
set_option maxRecDepth 100000 in
set_option maxHeartbeats 4000000 in
theorem sX12_fault (w : qcW) (I : Nat → Nat → Int32) (L : Nat → Nat → Int64) (D : Nat → Nat → UInt64) (R : Nat → Nat → Nat) (hn : qcNF ≤ w.1) (hR : qc_FR R) : qc_V 0 0 0 qmX12_fault [.ref 291] w (I, L, D, R) (qc_eq (some (.int (I 291 64))) w (I, L, D, R)) := by
  refine qc_V.of rfl rfl (Nat.le_of_ble_eq_true rfl) (lv := [(0, .ref 291)]) rfl ?_
  refine qc_aload_n (qc_at qkX12_fault 0 rfl) rfl <| qc_gI (qc_at qkX12_fault 1 rfl) hn rfl <| ?_
  refine qc_iret (qc_at qkX12_fault 2 rfl) rfl (Nat.le_refl _) (Nat.le_refl _) ?_
  exact qc_eq.rf _ _ _
set_option maxRecDepth 100000 in
set_option maxHeartbeats 4000000 in
theorem sX12_end (w : qcW) (I : Nat → Nat → Int32) (L : Nat → Nat → Int64) (D : Nat → Nat → UInt64) (R : Nat → Nat → Nat) (hn : qcNF ≤ w.1) (hR : qc_FR R) (n : Nat) (hl : I 291 7 = nI n) (hb : n ≤ 400) (x : Int32) : qc_V 1 0 0 qmX12_end [.ref 291, .int x] w (I, L, D, R) (qc_eq (some (.int (cond (qc_inb x (n + 1)) 1 (-1)))) w (cond (qc_inb x (n + 1)) (qc_u I 291 7 x) I, L, D, R)) := by
  have e1 : qm_in x.toInt64 0 (I 291 7).toInt64 = qc_inb x (n + 1) := qm_in_c x _ (by rw [hl, Int32.toInt_toInt64, nI_toInt (by omega)]; omega)
  refine qc_V.of rfl rfl (Nat.le_of_ble_eq_true rfl) (lv := [(0, .ref 291), (1, .int x)]) rfl ?_
  refine qc_iload_n (qc_at qkX12_end 0 rfl) rfl <| qc_i2l (qc_at qkX12_end 1 rfl) <| qc_lconst (qc_at qkX12_end 2 rfl) <| qc_aload_n (qc_at qkX12_end 3 rfl) rfl <| qc_gI (qc_at qkX12_end 4 rfl) hn rfl <| qc_i2l (qc_at qkX12_end 5 rfl) <| qc_cSv (qc_at qkX12_end 6 rfl) ql_12_162 qfX12_in (sX12_in _ _ _ _ _ _ _ _) rfl rfl (by decide) ⟨by decide, by decide⟩ ⟨by decide, by decide⟩ <| ?_
  refine qc_ifB_ne (qc_at qkX12_end 7 rfl) (fun h1 => ?_) (fun h1 => ?_)
  · refine qc_aload_n (qc_at qkX12_end 10 rfl) rfl <| qc_iload_n (qc_at qkX12_end 11 rfl) rfl <| qc_pI (qc_at qkX12_end 12 rfl) hn rfl <| qc_iconst (qc_at qkX12_end 13 rfl) <| ?_
    refine qc_iret (qc_at qkX12_end 14 rfl) rfl (Nat.le_refl _) (Nat.le_refl _) ?_
    rw [e1] at h1
    rw [h1]
    exact ⟨rfl, rfl, rfl⟩
  · refine qc_iconst (qc_at qkX12_end 8 rfl) <| ?_
    refine qc_iret (qc_at qkX12_end 9 rfl) rfl (Nat.le_refl _) (Nat.le_refl _) ?_
    rw [e1] at h1
    rw [h1]
    exact ⟨rfl, rfl, rfl⟩
set_option maxRecDepth 100000 in
set_option maxHeartbeats 4000000 in
theorem sX12_told (w : qcW) (I : Nat → Nat → Int32) (L : Nat → Nat → Int64) (D : Nat → Nat → UInt64) (R : Nat → Nat → Nat) (hn : qcNF ≤ w.1) (hR : qc_FR R) (t : Int32) : qc_V 0 0 0 qmX12_told [.ref 291, .int t] w (I, L, D, R) (qc_eq (some (.int (if t = 0 then I 291 78 else if t = 1 then I 291 79 else if t = 2 then I 291 80 else if t = 3 then (L 291 70).toInt32 else if t = 4 then I 291 81 else if t = 5 then I 291 77 else -2))) w (I, L, D, R)) := by
  refine qc_V.of rfl rfl (Nat.le_of_ble_eq_true rfl) (lv := [(0, .ref 291), (1, .int t)]) rfl ?_
  refine qc_iload_n (qc_at qkX12_told 0 rfl) rfl <| ?_
  refine qc_sw 6 (qc_at qkX12_told 1 rfl) rfl rfl (fun j1 hj1 h1 => ?_) (fun h1 => ?_)
  · rcases (show j1 = 0 ∨ j1 = 1 ∨ j1 = 2 ∨ j1 = 3 ∨ j1 = 4 ∨ j1 = 5 by omega) with rfl | rfl | rfl | rfl | rfl | rfl
    · refine ⟨40, rfl, ?_⟩
      replace h1 := qc_i32 (c := (0)) h1 rfl
      refine qc_aload_n (qc_at qkX12_told 2 rfl) rfl <| qc_gI (qc_at qkX12_told 3 rfl) hn rfl <| ?_
      refine qc_iret (qc_at qkX12_told 4 rfl) rfl (Nat.le_refl _) (Nat.le_refl _) ?_
      refine ⟨?_, rfl, rfl⟩
      first | (simp [*]; done) | (rw [if_neg (fun e => by rw [e] at h1; revert h1; decide), if_neg (fun e => by rw [e] at h1; revert h1; decide), if_neg (fun e => by rw [e] at h1; revert h1; decide), if_neg (fun e => by rw [e] at h1; revert h1; decide), if_neg (fun e => by rw [e] at h1; revert h1; decide), if_neg (fun e => by rw [e] at h1; revert h1; decide)])
    · refine ⟨45, rfl, ?_⟩
      replace h1 := qc_i32 (c := (1)) h1 rfl
      refine qc_aload_n (qc_at qkX12_told 5 rfl) rfl <| qc_gI (qc_at qkX12_told 6 rfl) hn rfl <| ?_
      refine qc_iret (qc_at qkX12_told 7 rfl) rfl (Nat.le_refl _) (Nat.le_refl _) ?_
      refine ⟨?_, rfl, rfl⟩
      first | (simp [*]; done) | (rw [if_neg (fun e => by rw [e] at h1; revert h1; decide), if_neg (fun e => by rw [e] at h1; revert h1; decide), if_neg (fun e => by rw [e] at h1; revert h1; decide), if_neg (fun e => by rw [e] at h1; revert h1; decide), if_neg (fun e => by rw [e] at h1; revert h1; decide), if_neg (fun e => by rw [e] at h1; revert h1; decide)])
    · refine ⟨50, rfl, ?_⟩
      replace h1 := qc_i32 (c := (2)) h1 rfl
      refine qc_aload_n (qc_at qkX12_told 8 rfl) rfl <| qc_gI (qc_at qkX12_told 9 rfl) hn rfl <| ?_
      refine qc_iret (qc_at qkX12_told 10 rfl) rfl (Nat.le_refl _) (Nat.le_refl _) ?_
      refine ⟨?_, rfl, rfl⟩
      first | (simp [*]; done) | (rw [if_neg (fun e => by rw [e] at h1; revert h1; decide), if_neg (fun e => by rw [e] at h1; revert h1; decide), if_neg (fun e => by rw [e] at h1; revert h1; decide), if_neg (fun e => by rw [e] at h1; revert h1; decide), if_neg (fun e => by rw [e] at h1; revert h1; decide), if_neg (fun e => by rw [e] at h1; revert h1; decide)])
    · refine ⟨55, rfl, ?_⟩
      replace h1 := qc_i32 (c := (3)) h1 rfl
      refine qc_aload_n (qc_at qkX12_told 11 rfl) rfl <| qc_gL (qc_at qkX12_told 12 rfl) hn rfl <| qc_l2i (qc_at qkX12_told 13 rfl) <| ?_
      refine qc_iret (qc_at qkX12_told 14 rfl) rfl (Nat.le_refl _) (Nat.le_refl _) ?_
      refine ⟨?_, rfl, rfl⟩
      first | (simp [*]; done) | (rw [if_neg (fun e => by rw [e] at h1; revert h1; decide), if_neg (fun e => by rw [e] at h1; revert h1; decide), if_neg (fun e => by rw [e] at h1; revert h1; decide), if_neg (fun e => by rw [e] at h1; revert h1; decide), if_neg (fun e => by rw [e] at h1; revert h1; decide), if_neg (fun e => by rw [e] at h1; revert h1; decide)])
    · refine ⟨61, rfl, ?_⟩
      replace h1 := qc_i32 (c := (4)) h1 rfl
      refine qc_aload_n (qc_at qkX12_told 15 rfl) rfl <| qc_gI (qc_at qkX12_told 16 rfl) hn rfl <| ?_
      refine qc_iret (qc_at qkX12_told 17 rfl) rfl (Nat.le_refl _) (Nat.le_refl _) ?_
      refine ⟨?_, rfl, rfl⟩
      first | (simp [*]; done) | (rw [if_neg (fun e => by rw [e] at h1; revert h1; decide), if_neg (fun e => by rw [e] at h1; revert h1; decide), if_neg (fun e => by rw [e] at h1; revert h1; decide), if_neg (fun e => by rw [e] at h1; revert h1; decide), if_neg (fun e => by rw [e] at h1; revert h1; decide), if_neg (fun e => by rw [e] at h1; revert h1; decide)])
    · refine ⟨66, rfl, ?_⟩
      replace h1 := qc_i32 (c := (5)) h1 rfl
      refine qc_aload_n (qc_at qkX12_told 18 rfl) rfl <| qc_gI (qc_at qkX12_told 19 rfl) hn rfl <| ?_
      refine qc_iret (qc_at qkX12_told 20 rfl) rfl (Nat.le_refl _) (Nat.le_refl _) ?_
      refine ⟨?_, rfl, rfl⟩
      first | (simp [*]; done) | (rw [if_neg (fun e => by rw [e] at h1; revert h1; decide), if_neg (fun e => by rw [e] at h1; revert h1; decide), if_neg (fun e => by rw [e] at h1; revert h1; decide), if_neg (fun e => by rw [e] at h1; revert h1; decide), if_neg (fun e => by rw [e] at h1; revert h1; decide), if_neg (fun e => by rw [e] at h1; revert h1; decide)])
  · refine ⟨71, rfl, ?_⟩
    refine qc_bipush (qc_at qkX12_told 21 rfl) <| ?_
    refine qc_iret (qc_at qkX12_told 22 rfl) rfl (Nat.le_refl _) (Nat.le_refl _) ?_
    refine ⟨?_, rfl, rfl⟩
    first | (simp [*]; done) | (rw [if_neg (fun e => by rw [e] at h1; revert h1; decide), if_neg (fun e => by rw [e] at h1; revert h1; decide), if_neg (fun e => by rw [e] at h1; revert h1; decide), if_neg (fun e => by rw [e] at h1; revert h1; decide), if_neg (fun e => by rw [e] at h1; revert h1; decide), if_neg (fun e => by rw [e] at h1; revert h1; decide)])
def qm_by (v : Int32) (k : Nat) : Int32 := (v >>> (nI (24 - 8 * k) &&& 31)) &&& 255
set_option maxRecDepth 100000 in
set_option maxHeartbeats 4000000 in
theorem lX12_four (w : qcW) (I : Nat → Nat → Int32) (L : Nat → Nat → Int64) (D : Nat → Nat → UInt64) (R : Nat → Nat → Nat) (hn : qcNF ≤ w.1) (hR : qc_FR R) (v : Int32) (n : Nat) (hn4 : n + 4 ≤ 400) : ∀ (k : Nat) (j : Nat) (x : Int32) (I1 : Nat → Nat → Int32) (hx : (j < 4 ∧ x = nI (24 - 8 * j)) ∨ (j = 4 ∧ x = -8)) (hk : 4 - j < k) (hI : I1 = qx_app I 297 291 7 n j (qm_by v)), qc_X (qc_rm 0 0 0) qmX12_four (qc_QM 0 0 (qc_eq none w (qx_app I 297 291 7 n 4 (qm_by v), L, D, R))) 0 0 w (3, [(0, .ref 291), (1, .int v), (2, .int x)], [], I1, L, D, R) := by
  intro k
  induction k with
  | zero => intro j x I1 hx hk; omega
  | succ k ih =>
    intro j x I1 hx hk hI
    have e1 : I1 291 7 = nI (n + j) := by rw [hI]; exact qx_app_len
    refine qc_iload_n (qc_at qkX12_four 2 rfl) rfl <| ?_
    refine qc_if_lt (qc_at qkX12_four 3 rfl) (fun h1 => ?_) (fun h1 => ?_)
    · refine qc_vret (qc_at qkX12_four 22 rfl) rfl (Nat.le_refl _) (Nat.le_refl _) ?_
      obtain ⟨e4, -⟩ : j = 4 ∧ x = -8 := by
        rcases hx with hx | hx
        · have t := qc_ti hx.2 (by omega); exfalso; simp only [Int32.lt_iff_toInt_lt, Int32.le_iff_toInt_le, Int32.reduceToInt] at *; omega
        · exact hx
      rw [e4] at hI
      rw [hI]
      exact qc_eq.rf _ _ _
    · obtain ⟨j4, hx2⟩ : j < 4 ∧ x = nI (24 - 8 * j) := by
        rcases hx with hx | hx
        · exact hx
        · rw [hx.2] at h1; exact absurd (by decide) h1
      have ecl := qc_tc1 e1 (by omega)
      have hin : vp_in (I1 291 7) 400 := by rw [e1]; exact vp_in_nI (by omega) (by decide)
      have e2 : ∀ z, qc_u I1 297 (n + j) z 291 7 + 1 = nI (n + (j + 1)) := fun z => by rw [qc_u_ne _ _ (Or.inl (by decide)), e1]; exact nI_1 _
      refine qc_aload_n (qc_at qkX12_four 4 rfl) rfl <| qc_gR (qc_at qkX12_four 5 rfl) hn rfl (qfr_291_6 hR) rfl <| qc_aload_n (qc_at qkX12_four 6 rfl) rfl <| qc_gI (qc_at qkX12_four 7 rfl) hn rfl <| qc_iload_n (qc_at qkX12_four 8 rfl) rfl <| qc_iload_n (qc_at qkX12_four 9 rfl) rfl <| qc_ishr (qc_at qkX12_four 10 rfl) <| qc_sipush (qc_at qkX12_four 11 rfl) <| qc_iand (qc_at qkX12_four 12 rfl) <| qc_iast 400 (qc_at qkX12_four 13 rfl) hn rfl hin <| qc_aload_n (qc_at qkX12_four 14 rfl) rfl <| qc_dup (qc_at qkX12_four 15 rfl) rfl <| qc_gI (qc_at qkX12_four 16 rfl) hn rfl <| qc_iconst (qc_at qkX12_four 17 rfl) <| qc_iadd (qc_at qkX12_four 18 rfl) <| qc_pI (qc_at qkX12_four 19 rfl) hn rfl <| qc_iinc (lv' := [(2, _), (0, _), (1, _)]) (qc_at qkX12_four 20 rfl) rfl rfl rfl <| qc_goto (qc_at qkX12_four 21 rfl) <| ?_
      refine qc_sub [1, 2, 0] rfl ?_
      refine ih (j + 1) _ _ ?_ (by omega) ?_
      · by_cases e : j = 3
        · subst e; rw [hx2]; exact Or.inr ⟨rfl, rfl⟩
        · exact Or.inl ⟨by omega, qc_m8 hx2 (by omega)⟩
      · rw [← qx_app_s (by decide), ← hI, ecl, e2, hx2]; rfl
set_option maxRecDepth 100000 in
set_option maxHeartbeats 4000000 in
theorem sX12_four (w : qcW) (I : Nat → Nat → Int32) (L : Nat → Nat → Int64) (D : Nat → Nat → UInt64) (R : Nat → Nat → Nat) (hn : qcNF ≤ w.1) (hR : qc_FR R) (v : Int32) (n : Nat) (hl : I 291 7 = nI n) (hn4 : n + 4 ≤ 400) : qc_V 0 0 0 qmX12_four [.ref 291, .int v] w (I, L, D, R) (qc_eq none w (qx_app I 297 291 7 n 4 (qm_by v), L, D, R)) := by
  refine qc_V.of rfl rfl (Nat.le_of_ble_eq_true rfl) (lv := [(0, .ref 291), (1, .int v)]) rfl ?_
  refine qc_bipush (qc_at qkX12_four 0 rfl) <| qc_istore_n (lv' := [(2, _), (0, _), (1, _)]) (qc_at qkX12_four 1 rfl) rfl rfl <| ?_
  exact qc_sub [1, 2, 0] rfl (lX12_four w I L D R hn hR v n hn4 5 0 24 I (Or.inl ⟨by omega, rfl⟩) (by omega) (qx_app_0 hl).symm)
def qm_feed (I : Nat → Nat → Int32) (a lb lk n : Nat) (va vb vc vd ve : Int32) : Nat → Nat → Int32 := (qx_app (qx_app (qx_app (qx_app (qx_app I a lb lk n 4 (qm_by va)) a lb lk (n + 4) 4 (qm_by vb)) a lb lk (n + 4 + 4) 4 (qm_by vc)) a lb lk (n + 4 + 4 + 4) 4 (qm_by vd)) a lb lk (n + 4 + 4 + 4 + 4) 4 (qm_by ve))
set_option maxRecDepth 100000 in
set_option maxHeartbeats 4000000 in
theorem sX12_feed (w : qcW) (I : Nat → Nat → Int32) (L : Nat → Nat → Int64) (D : Nat → Nat → UInt64) (R : Nat → Nat → Nat) (hn : qcNF ≤ w.1) (hR : qc_FR R) (n : Nat) (hl : I 291 7 = nI n) (hb : n ≤ 400) (va vb vc vd ve : Int32) : qc_V 1 0 0 qmX12_feed [.ref 291, .int va, .int vb, .int vc, .int vd, .int ve] w (I, L, D, R) (fun r w1 M1 => w1 = w ∧ ((n + 20 ≤ 400 ∧ r = some (.int (nI (n + 20))) ∧ M1 = (qm_feed I 297 291 7 n va vb vc vd ve, L, D, R)) ∨ (¬ n + 20 ≤ 400 ∧ r = some (.int (-2)) ∧ M1 = (I, L, D, R)))) := by
  have t1 : (I 291 7 + 20).toInt = ((n + 20 : Nat) : Int) := by rw [hl, show (20 : Int32) = nI 20 from rfl, nI_add]; exact nI_toInt (by omega)
  refine qc_V.of rfl rfl (Nat.le_of_ble_eq_true rfl) (lv := [(0, .ref 291), (1, .int va), (2, .int vb), (3, .int vc), (4, .int vd), (5, .int ve)]) rfl ?_
  refine qc_aload_n (qc_at qkX12_feed 0 rfl) rfl <| qc_gI (qc_at qkX12_feed 1 rfl) hn rfl <| qc_bipush (qc_at qkX12_feed 2 rfl) <| qc_iadd (qc_at qkX12_feed 3 rfl) <| qc_sipush (qc_at qkX12_feed 4 rfl) <| ?_
  refine qc_icmp_le (qc_at qkX12_feed 5 rfl) (fun h1 => ?_) (fun h1 => ?_)
  · have h20 : n + 20 ≤ 400 := by simp only [Int32.lt_iff_toInt_lt, Int32.le_iff_toInt_le, Int32.reduceToInt] at *; omega
    refine qc_aload_n (qc_at qkX12_feed 8 rfl) rfl <| qc_iload_n (qc_at qkX12_feed 9 rfl) rfl <| qc_cVn (ci := 10) (a0 := 291) (qc_at qkX12_feed 10 rfl) ql_12_222 qfX12_four (qc_kf hn rfl) rfl (sX12_four _ _ _ _ _ hn hR _ n hl (by omega)) rfl rfl (by decide) ⟨by decide, by decide⟩ ⟨by decide, by decide⟩ <| qc_aload_n (qc_at qkX12_feed 11 rfl) rfl <| qc_iload_n (qc_at qkX12_feed 12 rfl) rfl <| qc_cVn (ci := 10) (a0 := 291) (qc_at qkX12_feed 13 rfl) ql_12_222 qfX12_four (qc_kf hn rfl) rfl (sX12_four _ _ _ _ _ hn hR _ (n + 4) qx_app_len (by omega)) rfl rfl (by decide) ⟨by decide, by decide⟩ ⟨by decide, by decide⟩ <| qc_aload_n (qc_at qkX12_feed 14 rfl) rfl <| qc_iload_n (qc_at qkX12_feed 15 rfl) rfl <| qc_cVn (ci := 10) (a0 := 291) (qc_at qkX12_feed 16 rfl) ql_12_222 qfX12_four (qc_kf hn rfl) rfl (sX12_four _ _ _ _ _ hn hR _ (n + 4 + 4) qx_app_len (by omega)) rfl rfl (by decide) ⟨by decide, by decide⟩ ⟨by decide, by decide⟩ <| qc_aload_n (qc_at qkX12_feed 17 rfl) rfl <| qc_iload (qc_at qkX12_feed 18 rfl) rfl <| qc_cVn (ci := 10) (a0 := 291) (qc_at qkX12_feed 19 rfl) ql_12_222 qfX12_four (qc_kf hn rfl) rfl (sX12_four _ _ _ _ _ hn hR _ (n + 4 + 4 + 4) qx_app_len (by omega)) rfl rfl (by decide) ⟨by decide, by decide⟩ ⟨by decide, by decide⟩ <| qc_aload_n (qc_at qkX12_feed 20 rfl) rfl <| qc_iload (qc_at qkX12_feed 21 rfl) rfl <| qc_cVn (ci := 10) (a0 := 291) (qc_at qkX12_feed 22 rfl) ql_12_222 qfX12_four (qc_kf hn rfl) rfl (sX12_four _ _ _ _ _ hn hR _ (n + 4 + 4 + 4 + 4) qx_app_len (by omega)) rfl rfl (by decide) ⟨by decide, by decide⟩ ⟨by decide, by decide⟩ <| qc_aload_n (qc_at qkX12_feed 23 rfl) rfl <| qc_gI (qc_at qkX12_feed 24 rfl) hn rfl <| ?_
    refine qc_iret (qc_at qkX12_feed 25 rfl) rfl (Nat.le_refl _) (Nat.le_refl _) ?_
    exact ⟨rfl, Or.inl ⟨h20, by show _ = some (Value.int (nI (n + 4 + 4 + 4 + 4 + 4))); rw [← qx_app_len], rfl⟩⟩
  · refine qc_bipush (qc_at qkX12_feed 6 rfl) <| ?_
    refine qc_iret (qc_at qkX12_feed 7 rfl) rfl (Nat.le_refl _) (Nat.le_refl _) ?_
    exact ⟨rfl, Or.inr ⟨by simp only [Int32.lt_iff_toInt_lt, Int32.le_iff_toInt_le, Int32.reduceToInt] at *; omega, rfl, rfl⟩⟩
