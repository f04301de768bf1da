/-! the reference: rows, columns, counts; what its queries hold; the class: hits, clear -/
theorem qc_XZ {R : Room} {mi : qcI} {cu su mc ms : Nat} {w : qcW} {c : qcC} {Z Z2 : qcZ} (h : ∀ r w1 M1, Z r w1 M1 → Z2 r w1 M1) (k : qc_X R mi (qc_QM mc ms Z) cu su w c) : qc_X R mi (qc_QM mc ms Z2) cu su w c := by
  intro p l e s m args below meth c0 g H locs ls C D S L T hT X
  obtain ⟨t, q1, o, q2, q3, ⟨⟨r, w1, M1, q4, q5, q6⟩, q7⟩, q8⟩ := k p l e s m args below meth c0 g H locs ls C D S L T hT X
  exact ⟨t, q1, o, q2, q3, ⟨⟨r, w1, M1, q4, h _ _ _ q5, q6⟩, q7⟩, q8⟩
theorem qc_lsk {p : Nat → Bool} {j : Nat} (h : j ≤ qc_ls p 10) (hj : j < 10) : (p j = true → qc_ls p 10 = j) ∧ (p j = false → j + 1 ≤ qc_ls p 10) := by
  refine ⟨fun e => qc_ls_eq (by omega) (fun d hd => qc_ls_lt (n := 10) (by omega)) (Or.inr e), fun e => ?_⟩
  by_cases e2 : qc_ls p 10 = j
  · have := qc_ls_at (p := p) (n := 10) (by omega)
    rw [e2, e] at this
    cases this
  · omega
set_option maxRecDepth 100000 in
set_option maxHeartbeats 4000000 in
theorem lX12_freeIn (w : qcW) (I : Nat → Nat → Int32) (L : Nat → Nat → Int64) (D : Nat → Nat → UInt64) (R : Nat → Nat → Nat) (hn : qcNF ≤ w.1) (hR : qc_FR R) (xr : Int32) (QQ : qcQ) (hk0 : ∀ x3, qc_X (qc_rm 0 0 0) qmX12_freeRow QQ 0 0 w (44, [(0, .ref 291), (1, .int xr), (2, .int (qc_b (decide ((qc_ls (qx_us I 292 xr) 10) < 10)))), (3, .int x3)], [], I, L, D, R)) : ∀ (k j : Nat) (x u : Int32) (hx : x = nI j) (hj : j ≤ 10) (hk : 10 - j < k) (hu : u = qc_b (decide ((qc_ls (qx_us I 292 xr) 10) < j))), qc_X (qc_rm 0 0 0) qmX12_freeRow QQ 0 0 w (12, [(0, .ref 291), (1, .int xr), (2, .int u), (3, .int x)], [], I, L, D, R) := by
  intro k
  induction k with
  | zero => intro j x u hx hj hk; omega
  | succ k ih =>
    intro j x u hx hj hk hu
    have tx := qc_ti hx (by omega)
    have hle := qc_ls_le (qx_us I 292 xr) 10
    refine qc_iload_n (qc_at qkX12_freeRow 10 rfl) rfl <| qc_bipush (qc_at qkX12_freeRow 11 rfl) <| ?_
    refine qc_icmp_ge (qc_at qkX12_freeRow 12 rfl) (fun h1 => ?_) (fun h1 => ?_)
    · have e10 : j = 10 := by simp only [Int32.lt_iff_toInt_lt, Int32.le_iff_toInt_le, Int32.reduceToInt] at *; omega
      subst e10
      rw [hu]
      exact hk0 x
    · refine qc_iload_n (qc_at qkX12_freeRow 13 rfl) rfl <| ?_
      refine qc_if_ne (qc_at qkX12_freeRow 14 rfl) (fun h2 => ?_) (fun h2 => ?_)
      · refine qc_iconst (qc_at qkX12_freeRow 21 rfl) <| qc_goto (qc_at qkX12_freeRow 22 rfl) <| qc_istore_n (lv' := [(2, _), (0, _), (1, _), (3, _)]) (qc_at qkX12_freeRow 24 rfl) rfl rfl <| qc_iinc (lv' := [(3, _), (2, _), (0, _), (1, _)]) (qc_at qkX12_freeRow 25 rfl) rfl rfl rfl <| qc_goto (qc_at qkX12_freeRow 26 rfl) <| ?_
        refine qc_sub [2, 3, 1, 0] rfl ?_
        refine ih (j + 1) _ _ (qc_s1x hx) (by simp only [Int32.lt_iff_toInt_lt, Int32.le_iff_toInt_le, Int32.reduceToInt] at *; omega) (by simp only [Int32.lt_iff_toInt_lt, Int32.le_iff_toInt_le, Int32.reduceToInt] at *; omega) ?_
        have j10 : j < 10 := by simp only [Int32.lt_iff_toInt_lt, Int32.le_iff_toInt_le, Int32.reduceToInt] at *; omega
        by_cases hlt : (qc_ls (qx_us I 292 xr) 10) < j
        · first | (rw [decide_eq_true (show (qc_ls (qx_us I 292 xr) 10) < j + 1 by omega)]; rfl) | (exfalso; rw [hu, decide_eq_true hlt] at h2; exact h2 (by decide)) | (exfalso; rw [hu, decide_eq_true hlt] at h2; revert h2; decide)
        · have hs := qc_lsk (p := qx_us I 292 xr) (j := j) (by omega) j10
          first
            | (rw [qc_tc1 hx (by omega)] at h3; have e := hs.1 (decide_eq_true h3); rw [decide_eq_true (show (qc_ls (qx_us I 292 xr) 10) < j + 1 by omega)]; rfl)
            | (rw [qc_tc1 hx (by omega)] at h3; have e := hs.2 (decide_eq_false h3); rw [decide_eq_false (show ¬ (qc_ls (qx_us I 292 xr) 10) < j + 1 by omega)]; rfl)
            | (exfalso; rw [hu, decide_eq_false hlt] at h2; exact h2 rfl)
      · refine qc_aload_n (qc_at qkX12_freeRow 15 rfl) rfl <| qc_gR (qc_at qkX12_freeRow 16 rfl) hn rfl (qfr_291_1 hR) rfl <| qc_iload_n (qc_at qkX12_freeRow 17 rfl) rfl <| qc_iald 10 (qc_at qkX12_freeRow 18 rfl) hn rfl (qc_inI (by simp only [Int32.lt_iff_toInt_lt, Int32.le_iff_toInt_le, Int32.reduceToInt] at *; omega) (by simp only [Int32.lt_iff_toInt_lt, Int32.le_iff_toInt_le, Int32.reduceToInt] at *; omega)) <| qc_iload_n (qc_at qkX12_freeRow 19 rfl) rfl <| ?_
        refine qc_icmp_ne (qc_at qkX12_freeRow 20 rfl) (fun h3 => ?_) (fun h3 => ?_)
        · refine qc_iconst (qc_at qkX12_freeRow 23 rfl) <| qc_istore_n (lv' := [(2, _), (0, _), (1, _), (3, _)]) (qc_at qkX12_freeRow 24 rfl) rfl rfl <| qc_iinc (lv' := [(3, _), (2, _), (0, _), (1, _)]) (qc_at qkX12_freeRow 25 rfl) rfl rfl rfl <| qc_goto (qc_at qkX12_freeRow 26 rfl) <| ?_
          refine qc_sub [2, 3, 1, 0] rfl ?_
          refine ih (j + 1) _ _ (qc_s1x hx) (by simp only [Int32.lt_iff_toInt_lt, Int32.le_iff_toInt_le, Int32.reduceToInt] at *; omega) (by simp only [Int32.lt_iff_toInt_lt, Int32.le_iff_toInt_le, Int32.reduceToInt] at *; omega) ?_
          have j10 : j < 10 := by simp only [Int32.lt_iff_toInt_lt, Int32.le_iff_toInt_le, Int32.reduceToInt] at *; omega
          by_cases hlt : (qc_ls (qx_us I 292 xr) 10) < j
          · first | (rw [decide_eq_true (show (qc_ls (qx_us I 292 xr) 10) < j + 1 by omega)]; rfl) | (exfalso; rw [hu, decide_eq_true hlt] at h2; exact h2 (by decide)) | (exfalso; rw [hu, decide_eq_true hlt] at h2; revert h2; decide)
          · have hs := qc_lsk (p := qx_us I 292 xr) (j := j) (by omega) j10
            first
              | (rw [qc_tc1 hx (by omega)] at h3; have e := hs.1 (decide_eq_true h3); rw [decide_eq_true (show (qc_ls (qx_us I 292 xr) 10) < j + 1 by omega)]; rfl)
              | (rw [qc_tc1 hx (by omega)] at h3; have e := hs.2 (decide_eq_false h3); rw [decide_eq_false (show ¬ (qc_ls (qx_us I 292 xr) 10) < j + 1 by omega)]; rfl)
              | (exfalso; rw [hu, decide_eq_false hlt] at h2; exact h2 rfl)
        · refine qc_iconst (qc_at qkX12_freeRow 21 rfl) <| qc_goto (qc_at qkX12_freeRow 22 rfl) <| qc_istore_n (lv' := [(2, _), (0, _), (1, _), (3, _)]) (qc_at qkX12_freeRow 24 rfl) rfl rfl <| qc_iinc (lv' := [(3, _), (2, _), (0, _), (1, _)]) (qc_at qkX12_freeRow 25 rfl) rfl rfl rfl <| qc_goto (qc_at qkX12_freeRow 26 rfl) <| ?_
          refine qc_sub [2, 3, 1, 0] rfl ?_
          refine ih (j + 1) _ _ (qc_s1x hx) (by simp only [Int32.lt_iff_toInt_lt, Int32.le_iff_toInt_le, Int32.reduceToInt] at *; omega) (by simp only [Int32.lt_iff_toInt_lt, Int32.le_iff_toInt_le, Int32.reduceToInt] at *; omega) ?_
          have j10 : j < 10 := by simp only [Int32.lt_iff_toInt_lt, Int32.le_iff_toInt_le, Int32.reduceToInt] at *; omega
          by_cases hlt : (qc_ls (qx_us I 292 xr) 10) < j
          · first | (rw [decide_eq_true (show (qc_ls (qx_us I 292 xr) 10) < j + 1 by omega)]; rfl) | (exfalso; rw [hu, decide_eq_true hlt] at h2; exact h2 (by decide)) | (exfalso; rw [hu, decide_eq_true hlt] at h2; revert h2; decide)
          · have hs := qc_lsk (p := qx_us I 292 xr) (j := j) (by omega) j10
            first
              | (rw [qc_tc1 hx (by omega)] at h3; have e := hs.1 (decide_eq_true h3); rw [decide_eq_true (show (qc_ls (qx_us I 292 xr) 10) < j + 1 by omega)]; rfl)
              | (rw [qc_tc1 hx (by omega)] at h3; have e := hs.2 (decide_eq_false h3); rw [decide_eq_false (show ¬ (qc_ls (qx_us I 292 xr) 10) < j + 1 by omega)]; rfl)
              | (exfalso; rw [hu, decide_eq_false hlt] at h2; exact h2 rfl)
theorem qx_free11 (I : Nat → Nat → Int32) (a : Nat) : qx_fr I a 11 < 11 := by
  apply Nat.lt_of_not_le
  intro hge
  have hall : ∀ r, r < 11 → ∃ c, c < 10 ∧ I a c = nI r := by
    intro r hr
    have h1 : decide (10 ≤ qc_ls (qx_us I a (nI r)) 10) = false := qc_ls_lt (p := fun r => decide (10 ≤ qc_ls (qx_us I a (nI r)) 10)) (n := 11) (by unfold qx_fr at hge; omega)
    have h2 := of_decide_eq_false h1
    exact ⟨qc_ls (qx_us I a (nI r)) 10, by omega, of_decide_eq_true (qc_ls_at (p := qx_us I a (nI r)) (n := 10) (by omega))⟩
  obtain ⟨f, hf⟩ := Classical.axiomOfChoice (fun r => (show ∃ c, r < 11 → c < 10 ∧ I a c = nI r from by
    by_cases hr : r < 11
    · obtain ⟨c, h⟩ := hall r hr
      exact ⟨c, fun _ => h⟩
    · exact ⟨0, fun h => absurd h hr⟩))
  have := qc_pigeon 11 10 f (fun i hi => (hf i hi).1) (fun i j hi hj e => by
    have h1 := (hf i hi).2
    have h2 := (hf j hj).2
    rw [e, h2] at h1
    exact ((nI_eq (by omega) (by omega)).mp h1).symm)
  omega
theorem qc_pigeon_row {I : Nat → Nat → Int32} {q : Nat} {xr : Int32} (hd : ∀ d, d < q → qc_ls (qx_us I 292 (nI d)) 10 < 10) (hlt : qc_ls (qx_us I 292 xr) 10 < 10) (hx : xr = nI q) (e : q = 10) : False := by
  have hf := qx_free11 I 292
  have hr := of_decide_eq_true (qc_ls_at (p := fun r => decide (10 ≤ qc_ls (qx_us I 292 (nI r)) 10)) (n := 11) hf)
  unfold qx_fr at hf
  generalize qc_ls (fun r => decide (10 ≤ qc_ls (qx_us I 292 (nI r)) 10)) 11 = r0 at hf hr
  by_cases e3 : r0 < q
  · have := hd r0 e3
    omega
  · have e4 : r0 = q := by omega
    rw [e4, ← hx] at hr
    omega
set_option maxRecDepth 100000 in
set_option maxHeartbeats 4000000 in
theorem lX12_freeRow (w : qcW) (I : Nat → Nat → Int32) (L : Nat → Nat → Int64) (D : Nat → Nat → UInt64) (R : Nat → Nat → Nat) (hn : qcNF ≤ w.1) (hR : qc_FR R) : ∀ (k q : Nat) (xr u : Int32) (hx : xr = nI q) (hq : q ≤ 10) (hk : 22 - 2 * q - (cond (decide (u = 0)) 1 0) < k) (hd : ∀ d, d < q → qc_ls (qx_us I 292 (nI d)) 10 < 10) (hu : u = 1 ∨ (u = 0 ∧ qc_ls (qx_us I 292 xr) 10 = 10)), qc_X (qc_rm 0 0 0) qmX12_freeRow (qc_QM 0 0 (qc_eq (some (.int (nI (qx_fr I 292 11)))) w (I, L, D, R))) 0 0 w (4, [(0, .ref 291), (1, .int xr), (2, .int u)], [], I, L, D, R) := by
  intro k
  induction k with
  | zero => intro q xr u hx hq hk; omega
  | succ k ih =>
    intro q xr u hx hq hk hd hu
    have hf := qx_free11 I 292
    refine qc_iload_n (qc_at qkX12_freeRow 4 rfl) rfl <| ?_
    refine qc_if_eq (qc_at qkX12_freeRow 5 rfl) (fun h1 => ?_) (fun h1 => ?_)
    · refine qc_iload_n (qc_at qkX12_freeRow 36 rfl) rfl <| ?_
      refine qc_iret (qc_at qkX12_freeRow 37 rfl) rfl (Nat.le_refl _) (Nat.le_refl _) ?_
      rcases hu with hu | hu
      · rw [hu] at h1; exact absurd h1 (by decide)
      · refine ⟨?_, rfl, rfl⟩
        unfold qx_fr
        rw [qc_ls_eq (j := q) (by omega) (fun d hd2 => decide_eq_false (by have := hd d hd2; omega)) (Or.inr (decide_eq_true (by rw [← hx, hu.2]; exact Nat.le_refl 10))), hx]
    · refine qc_iconst (qc_at qkX12_freeRow 6 rfl) <| qc_istore_n (lv' := [(2, _), (0, _), (1, _)]) (qc_at qkX12_freeRow 7 rfl) rfl rfl <| qc_iconst (qc_at qkX12_freeRow 8 rfl) <| qc_istore_n (lv' := [(3, _), (2, _), (0, _), (1, _)]) (qc_at qkX12_freeRow 9 rfl) rfl rfl <| ?_
      have hle := qc_ls_le (qx_us I 292 xr) 10
      refine qc_sub [2, 3, 1, 0] rfl ?_
      refine lX12_freeIn w I L D R hn hR xr _ (fun x3 => ?_) 11 0 0 0 rfl (by omega) (by omega) (by rw [decide_eq_false (Nat.not_lt_zero _)]; rfl)
      refine qc_iload_n (qc_at qkX12_freeRow 27 rfl) rfl <| qc_iload_n (qc_at qkX12_freeRow 28 rfl) rfl <| ?_
      refine qc_ifB_eq (qc_at qkX12_freeRow 29 rfl) (fun h1_ => ?_) (fun h1_ => ?_)
      · refine qc_iconst (qc_at qkX12_freeRow 32 rfl) <| qc_iadd (qc_at qkX12_freeRow 33 rfl) <| qc_istore_n (lv' := [(1, _), (0, _), (2, _), (3, _)]) (qc_at qkX12_freeRow 34 rfl) rfl rfl <| qc_goto (qc_at qkX12_freeRow 35 rfl) <| ?_
        refine qc_sub [1, 0, 2] rfl ?_
        have u1 : u = 1 := by rcases hu with hu | hu; exact hu; exact absurd hu.1 h1
        rw [u1] at hk
        first
          | (have hlt := of_decide_eq_true h1_; rw [h1_]; have q10 : q < 10 := by
              apply Nat.lt_of_not_le; intro hge; have e : q = 10 := by omega
              exact qc_pigeon_row hd hlt hx e
             exact ih (q + 1) _ 1 (qc_s1x hx) (by omega) (by simp at hk ⊢; omega) (fun d hd2 => by by_cases e : d = q; · rw [e, ← hx]; exact hlt
                                                                                                                          · exact hd d (by omega)) (Or.inl rfl))
          | (have hge := of_decide_eq_false h1_; rw [h1_]; exact ih q _ 0 (by rw [hx]; exact Int32.add_zero _) hq (by simp at hk ⊢; omega) hd (Or.inr ⟨rfl, by rw [Int32.add_zero]; omega⟩))
      · refine qc_iconst (qc_at qkX12_freeRow 30 rfl) <| qc_goto (qc_at qkX12_freeRow 31 rfl) <| qc_iadd (qc_at qkX12_freeRow 33 rfl) <| qc_istore_n (lv' := [(1, _), (0, _), (2, _), (3, _)]) (qc_at qkX12_freeRow 34 rfl) rfl rfl <| qc_goto (qc_at qkX12_freeRow 35 rfl) <| ?_
        refine qc_sub [1, 0, 2] rfl ?_
        have u1 : u = 1 := by rcases hu with hu | hu; exact hu; exact absurd hu.1 h1
        rw [u1] at hk
        first
          | (have hlt := of_decide_eq_true h1_; rw [h1_]; have q10 : q < 10 := by
              apply Nat.lt_of_not_le; intro hge; have e : q = 10 := by omega
              exact qc_pigeon_row hd hlt hx e
             exact ih (q + 1) _ 1 (qc_s1x hx) (by omega) (by simp at hk ⊢; omega) (fun d hd2 => by by_cases e : d = q; · rw [e, ← hx]; exact hlt
                                                                                                                          · exact hd d (by omega)) (Or.inl rfl))
          | (have hge := of_decide_eq_false h1_; rw [h1_]; exact ih q _ 0 (by rw [hx]; exact Int32.add_zero _) hq (by simp at hk ⊢; omega) hd (Or.inr ⟨rfl, by rw [Int32.add_zero]; omega⟩))
set_option maxRecDepth 100000 in
set_option maxHeartbeats 4000000 in
theorem sX12_freeRow (w : qcW) (I : Nat → Nat → Int32) (L : Nat → Nat → Int64) (D : Nat → Nat → UInt64) (R : Nat → Nat → Nat) (hn : qcNF ≤ w.1) (hR : qc_FR R) : qc_V 0 0 0 qmX12_freeRow [.ref 291] w (I, L, D, R) (qc_eq (some (.int (nI (qx_fr I 292 11)))) w (I, L, D, R)) := by
  refine qc_V.of rfl rfl (Nat.le_of_ble_eq_true rfl) (lv := [(0, .ref 291)]) rfl ?_
  refine qc_iconst (qc_at qkX12_freeRow 0 rfl) <| qc_istore_n (lv' := [(1, _), (0, _)]) (qc_at qkX12_freeRow 1 rfl) rfl rfl <| qc_iconst (qc_at qkX12_freeRow 2 rfl) <| qc_istore_n (lv' := [(2, _), (1, _), (0, _)]) (qc_at qkX12_freeRow 3 rfl) rfl rfl <| ?_
  exact qc_sub [2, 1, 0] rfl (lX12_freeRow w I L D R hn hR 30 0 0 1 rfl (by omega) (by simp) (fun d hd => absurd hd (Nat.not_lt_zero d)) (Or.inl rfl))
theorem qc_ix2 {xr : Int32} {r : Nat} (h1 : xr = nI r) : (16 : Int32) * xr = nI (16 * r) := by rw [h1, show (16 : Int32) = nI 16 from rfl, pk_mul]
set_option maxRecDepth 100000 in
set_option maxHeartbeats 4000000 in
theorem lX12_column (w : qcW) (I : Nat → Nat → Int32) (L : Nat → Nat → Int64) (D : Nat → Nat → UInt64) (R : Nat → Nat → Nat) (hn : qcNF ≤ w.1) (hR : qc_FR R) (c l n xr : Int32) (hc : qc_inb c 10 = true) (r : Nat) (hr : r < 11) (hxr : xr = nI r) : ∀ (k : Nat) (j : Nat) (x : Int32) (L1 : Nat → Nat → Int64) (D1 : Nat → Nat → UInt64) (hx : x = nI (16 * r + j)) (hj : j ≤ 16) (hk : 16 - j < k) (hL : L1 = qc_fill L 295 (16 * r) j 0) (hD : D1 = qc_fill D 296 (16 * r) j 0), qc_X (qc_rm 2 0 0) qmX12_column (qc_QM 0 0 (qc_eq (some (.int 1)) w (qc_u I 292 c.toNatClampNeg xr, qc_fill L 295 (16 * r) 16 0, qc_fill D 296 (16 * r) 16 0, R))) 0 0 w (62, [(0, .ref 291), (1, .int c), (2, .int l), (3, .int n), (4, .int xr), (5, .int x)], [], I, L1, D1, R) := by
  intro k
  induction k with
  | zero => intro j x L1 D1 hx hj hk; omega
  | succ k ih =>
    intro j x L1 D1 hx hj hk hL hD
    have tx := qc_ti hx (by omega)
    have te : ((16 : Int32) * xr + 16).toInt = ((16 * r + 16 : Nat) : Int) := by rw [qc_ix2 hxr, show (16 : Int32) = nI 16 from rfl, nI_add]; exact nI_toInt (by omega)
    refine qc_iload (qc_at qkX12_column 34 rfl) rfl <| qc_bipush (qc_at qkX12_column 35 rfl) <| qc_iload (qc_at qkX12_column 36 rfl) rfl <| qc_imul (qc_at qkX12_column 37 rfl) <| qc_bipush (qc_at qkX12_column 38 rfl) <| qc_iadd (qc_at qkX12_column 39 rfl) <| ?_
    refine qc_icmp_ge (qc_at qkX12_column 40 rfl) (fun h1 => ?_) (fun h1 => ?_)
    · refine qc_aload_n (qc_at qkX12_column 53 rfl) rfl <| qc_gR (qc_at qkX12_column 54 rfl) hn rfl (qfr_291_1 hR) rfl <| qc_iload_n (qc_at qkX12_column 55 rfl) rfl <| qc_iload (qc_at qkX12_column 56 rfl) rfl <| qc_iast 10 (qc_at qkX12_column 57 rfl) hn rfl (qc_inb_in hc) <| qc_iconst (qc_at qkX12_column 58 rfl) <| ?_
      refine qc_iret (qc_at qkX12_column 59 rfl) rfl (Nat.le_refl _) (Nat.le_refl _) ?_
      have e16 : j = 16 := by simp only [Int32.lt_iff_toInt_lt, Int32.le_iff_toInt_le, Int32.reduceToInt] at *; omega
      rw [e16] at hL hD
      rw [hL, hD]
      exact qc_eq.rf _ _ _
    · have j16 : j < 16 := by simp only [Int32.lt_iff_toInt_lt, Int32.le_iff_toInt_le, Int32.reduceToInt] at *; omega
      have hin : vp_in x 176 := by rw [hx]; exact vp_in_nI (by omega) (by decide)
      refine qc_aload_n (qc_at qkX12_column 41 rfl) rfl <| qc_gR (qc_at qkX12_column 42 rfl) hn rfl (qfr_291_4 hR) rfl <| qc_iload (qc_at qkX12_column 43 rfl) rfl <| qc_lconst (qc_at qkX12_column 44 rfl) <| qc_last 176 (qc_at qkX12_column 45 rfl) hn rfl hin <| qc_aload_n (qc_at qkX12_column 46 rfl) rfl <| qc_gR (qc_at qkX12_column 47 rfl) hn rfl (qfr_291_5 hR) rfl <| qc_iload (qc_at qkX12_column 48 rfl) rfl <| qc_dconst (qc_at qkX12_column 49 rfl) <| qc_dast 176 (qc_at qkX12_column 50 rfl) hn rfl hin <| qc_iinc (lv' := [(5, _), (0, _), (1, _), (2, _), (3, _), (4, _)]) (qc_at qkX12_column 51 rfl) rfl rfl rfl <| qc_goto (qc_at qkX12_column 52 rfl) <| ?_
      refine qc_sub [1, 2, 3, 4, 5, 0] rfl ?_
      refine ih (j + 1) _ _ _ (qc_s1x hx) (by simp only [Int32.lt_iff_toInt_lt, Int32.le_iff_toInt_le, Int32.reduceToInt] at *; omega) (by simp only [Int32.lt_iff_toInt_lt, Int32.le_iff_toInt_le, Int32.reduceToInt] at *; omega) ?_ ?_
      · rw [hL, qc_tc1 hx (by omega), qc_fill_s]
      · rw [hD, qc_tc1 hx (by omega), qc_fill_s]
/-- a column of the reference made anew -/
def qm_mk (I : Nat → Nat → Int32) (c : Nat) (l n : Int32) : Nat → Nat → Int32 := qc_u (qc_u (qc_u I 293 (qx_fr I 292 11) l) 294 (qx_fr I 292 11) n) 292 c (nI (qx_fr I 292 11))
set_option maxRecDepth 100000 in
set_option maxHeartbeats 4000000 in
theorem sX12_column (w : qcW) (I : Nat → Nat → Int32) (L : Nat → Nat → Int64) (D : Nat → Nat → UInt64) (R : Nat → Nat → Nat) (hn : qcNF ≤ w.1) (hR : qc_FR R) (c l n : Int32) : qc_V 2 0 0 qmX12_column [.ref 291, .int c, .int l, .int n] w (I, L, D, R) (fun r w1 M1 => w1 = w ∧ (((qc_inb c 10 && qc_inb l 8 && qc_inb n 17) = true ∧ r = some (.int 1) ∧ M1 = (qm_mk I c.toNatClampNeg l n, qc_fill L 295 (16 * qx_fr I 292 11) 16 0, qc_fill D 296 (16 * qx_fr I 292 11) 16 0, R)) ∨ ((qc_inb c 10 && qc_inb l 8 && qc_inb n 17) = false ∧ r = some (.int (-1)) ∧ M1 = (I, L, D, R)))) := by
  have hf := qx_free11 I 292
  refine qc_V.of rfl rfl (Nat.le_of_ble_eq_true rfl) (lv := [(0, .ref 291), (1, .int c), (2, .int l), (3, .int n)]) rfl ?_
  refine qc_iload_n (qc_at qkX12_column 0 rfl) rfl <| qc_cSv (qc_at qkX12_column 1 rfl) ql_12_171 qfX12_isColumn (sX12_isColumn _ _ _ _ _ _) rfl rfl (by decide) ⟨by decide, by decide⟩ ⟨by decide, by decide⟩ <| ?_
  refine qc_ifB_eq (qc_at qkX12_column 2 rfl) (fun h1 => ?_) (fun h1 => ?_)
  · refine qc_iconst (qc_at qkX12_column 15 rfl) <| ?_
    refine qc_iret (qc_at qkX12_column 16 rfl) rfl (Nat.le_refl _) (Nat.le_refl _) ?_
    refine ⟨rfl, Or.inr ⟨?_, rfl, rfl⟩⟩
    simp [qm_in_c l 7 (n := 8) rfl, qm_in_c n 16 (n := 17) rfl, *] at *
    first | (simp [*]; done) | skip
  · refine qc_iload_n (qc_at qkX12_column 3 rfl) rfl <| qc_i2l (qc_at qkX12_column 4 rfl) <| qc_lconst (qc_at qkX12_column 5 rfl) <| qc_ldc2l (qc_at qkX12_column 6 rfl) <| qc_cSv (qc_at qkX12_column 7 rfl) ql_12_162 qfX12_in (sX12_in _ _ _ _ _ _ _ _) rfl rfl (by decide) ⟨by decide, by decide⟩ ⟨by decide, by decide⟩ <| ?_
    refine qc_ifB_eq (qc_at qkX12_column 8 rfl) (fun h2 => ?_) (fun h2 => ?_)
    · refine qc_iconst (qc_at qkX12_column 15 rfl) <| ?_
      refine qc_iret (qc_at qkX12_column 16 rfl) rfl (Nat.le_refl _) (Nat.le_refl _) ?_
      refine ⟨rfl, Or.inr ⟨?_, rfl, rfl⟩⟩
      simp [qm_in_c l 7 (n := 8) rfl, qm_in_c n 16 (n := 17) rfl, *] at *
      first | (simp [*]; done) | skip
    · refine qc_iload_n (qc_at qkX12_column 9 rfl) rfl <| qc_i2l (qc_at qkX12_column 10 rfl) <| qc_lconst (qc_at qkX12_column 11 rfl) <| qc_ldc2l (qc_at qkX12_column 12 rfl) <| qc_cSv (qc_at qkX12_column 13 rfl) ql_12_162 qfX12_in (sX12_in _ _ _ _ _ _ _ _) rfl rfl (by decide) ⟨by decide, by decide⟩ ⟨by decide, by decide⟩ <| ?_
      refine qc_ifB_ne (qc_at qkX12_column 14 rfl) (fun h3 => ?_) (fun h3 => ?_)
      · refine qc_aload_n (qc_at qkX12_column 17 rfl) rfl <| qc_cVv (ci := 10) (a0 := 291) (qc_at qkX12_column 18 rfl) ql_12_177 qfX12_freeRow (qc_kf hn rfl) rfl (sX12_freeRow _ _ _ _ _ hn hR) rfl rfl (by decide) ⟨by decide, by decide⟩ ⟨by decide, by decide⟩ <| ?_
        have hin : vp_in (nI (qx_fr I 292 11)) 11 := vp_in_nI hf (by decide)
        have hcl := qc_clN (j := qx_fr I 292 11) (by omega)
        refine qc_istore (lv' := [(4, _), (0, _), (1, _), (2, _), (3, _)]) (qc_at qkX12_column 19 rfl) rfl rfl <| qc_aload_n (qc_at qkX12_column 20 rfl) rfl <| qc_gR (qc_at qkX12_column 21 rfl) hn rfl (qfr_291_2 hR) rfl <| qc_iload (qc_at qkX12_column 22 rfl) rfl <| qc_iload_n (qc_at qkX12_column 23 rfl) rfl <| qc_iast 11 (qc_at qkX12_column 24 rfl) hn rfl hin <| qc_aload_n (qc_at qkX12_column 25 rfl) rfl <| qc_gR (qc_at qkX12_column 26 rfl) hn rfl (qfr_291_3 hR) rfl <| qc_iload (qc_at qkX12_column 27 rfl) rfl <| qc_iload_n (qc_at qkX12_column 28 rfl) rfl <| qc_iast 11 (qc_at qkX12_column 29 rfl) hn rfl hin <| qc_bipush (qc_at qkX12_column 30 rfl) <| qc_iload (qc_at qkX12_column 31 rfl) rfl <| qc_imul (qc_at qkX12_column 32 rfl) <| qc_istore (lv' := [(5, _), (4, _), (0, _), (1, _), (2, _), (3, _)]) (qc_at qkX12_column 33 rfl) rfl rfl <| ?_
        rw [hcl]
        have z := lX12_column w (qc_u (qc_u I 293 (qx_fr I 292 11) l) 294 (qx_fr I 292 11) n) L D R hn hR c l n (nI (qx_fr I 292 11)) h1 (qx_fr I 292 11) hf rfl 17 0 (16 * nI (qx_fr I 292 11)) L D (qc_ix2 rfl) (by omega) (by omega) (qc_fill_0 _ _ _ _).symm (qc_fill_0 _ _ _ _).symm
        rw [qm_in_c l 7 (n := 8) rfl] at h2
        rw [qm_in_c n 16 (n := 17) rfl] at h3
        refine qc_sub [2, 3, 4, 5, 1, 0] rfl (qc_XZ (fun r w1 M1 hz => ?_) z)
        obtain ⟨rfl, rfl, rfl⟩ := hz
        exact ⟨rfl, Or.inl ⟨by rw [h1, h2, h3]; rfl, rfl, rfl⟩⟩
      · refine qc_iconst (qc_at qkX12_column 15 rfl) <| ?_
        refine qc_iret (qc_at qkX12_column 16 rfl) rfl (Nat.le_refl _) (Nat.le_refl _) ?_
        refine ⟨rfl, Or.inr ⟨?_, rfl, rfl⟩⟩
        simp [qm_in_c l 7 (n := 8) rfl, qm_in_c n 16 (n := 17) rfl, *] at *
        first | (simp [*]; done) | skip
theorem qx_like_self (I : Nat → Nat → Int32) (a c : Nat) : qx_like I a c c = true := by unfold qx_like; simp
theorem qx_like_le (I : Nat → Nat → Int32) (a c : Nat) : qc_ls (qx_like I a c) c ≤ c := qc_ls_le _ _
set_option maxRecDepth 100000 in
set_option maxHeartbeats 4000000 in
theorem lX12_about (w : qcW) (I : Nat → Nat → Int32) (L : Nat → Nat → Int64) (D : Nat → Nat → UInt64) (R : Nat → Nat → Nat) (hn : qcNF ≤ w.1) (hR : qc_FR R) (c : Nat) (hc : c < 10) (xc t : Int32) (hxc : xc = nI c) : ∀ (k : Nat) (j : Nat) (x : Int32) (hx : x = nI j) (hj : j ≤ c) (hk : c - j < k) (hi : ∀ d, d < j → qx_like I 292 c d = false), qc_X (qc_rm 2 0 0) qmX12_about (qc_QM 0 0 (qc_eq (some (.int (nI (qc_ls (qx_like I 292 c) c)))) w (I, L, D, R))) 0 0 w (29, [(0, .ref 291), (1, .int xc), (2, .int t), (3, .int x)], [], I, L, D, R) := by
  intro k
  induction k with
  | zero => intro j x hx hj hk; omega
  | succ k ih =>
    intro j x hx hj hk hi
    have tx := qc_ti hx (by omega)
    have txc := qc_ti hxc (by omega)
    refine qc_aload_n (qc_at qkX12_about 16 rfl) rfl <| qc_gR (qc_at qkX12_about 17 rfl) hn rfl (qfr_291_1 hR) rfl <| qc_iload_n (qc_at qkX12_about 18 rfl) rfl <| qc_iald 10 (qc_at qkX12_about 19 rfl) hn rfl (qc_inI (by simp only [Int32.lt_iff_toInt_lt, Int32.le_iff_toInt_le, Int32.reduceToInt] at *; omega) (by simp only [Int32.lt_iff_toInt_lt, Int32.le_iff_toInt_le, Int32.reduceToInt] at *; omega)) <| qc_aload_n (qc_at qkX12_about 20 rfl) rfl <| qc_gR (qc_at qkX12_about 21 rfl) hn rfl (qfr_291_1 hR) rfl <| qc_iload_n (qc_at qkX12_about 22 rfl) rfl <| qc_iald 10 (qc_at qkX12_about 23 rfl) hn rfl (qc_inI (by simp only [Int32.lt_iff_toInt_lt, Int32.le_iff_toInt_le, Int32.reduceToInt] at *; omega) (by simp only [Int32.lt_iff_toInt_lt, Int32.le_iff_toInt_le, Int32.reduceToInt] at *; omega)) <| ?_
    refine qc_icmp_eq (qc_at qkX12_about 24 rfl) (fun h1 => ?_) (fun h1 => ?_)
    · refine qc_iload_n (qc_at qkX12_about 27 rfl) rfl <| ?_
      refine qc_iret (qc_at qkX12_about 28 rfl) rfl (Nat.le_refl _) (Nat.le_refl _) ?_
      refine ⟨?_, rfl, rfl⟩
      rw [qc_tc1 hx (by omega), qc_tc1 hxc (by omega)] at h1
      by_cases e : j = c
      · rw [qc_ls_eq (j := j) (by omega) hi (Or.inl e), hx]
      · rw [qc_ls_eq (j := j) (by omega) hi (Or.inr (decide_eq_true h1)), hx]
    · refine qc_iinc (lv' := [(3, _), (0, _), (1, _), (2, _)]) (qc_at qkX12_about 25 rfl) rfl rfl rfl <| qc_goto (qc_at qkX12_about 26 rfl) <| ?_
      refine qc_sub [1, 2, 3, 0] rfl ?_
      have e10 : j ≠ c := fun e => by rw [hx, hxc, e] at h1; exact h1 rfl
      refine ih (j + 1) _ (qc_s1x hx) (by omega) (by omega) (fun d hd => ?_)
      by_cases e : d = j
      · subst e; unfold qx_like; rw [qc_tc1 hx (by omega), qc_tc1 hxc (by omega)] at h1; exact decide_eq_false h1
      · exact hi d (by omega)
set_option maxRecDepth 100000 in
set_option maxHeartbeats 4000000 in
theorem sX12_about (w : qcW) (I : Nat → Nat → Int32) (L : Nat → Nat → Int64) (D : Nat → Nat → UInt64) (R : Nat → Nat → Nat) (hn : qcNF ≤ w.1) (hR : qc_FR R) (hI : qx_ok I 292 11) (c t : Int32) : qc_V 2 0 0 qmX12_about [.ref 291, .int c, .int t] w (I, L, D, R) (qc_eq (some (.int (qx_about I 292 293 294 c t))) w (I, L, D, R)) := by
  have e3 := qm_in_c t 2 (n := 3) rfl
  refine qc_V.of rfl rfl (Nat.le_of_ble_eq_true rfl) (lv := [(0, .ref 291), (1, .int c), (2, .int t)]) rfl ?_
  refine qc_iload_n (qc_at qkX12_about 0 rfl) rfl <| qc_cSv (qc_at qkX12_about 1 rfl) ql_12_171 qfX12_isColumn (sX12_isColumn _ _ _ _ _ _) rfl rfl (by decide) ⟨by decide, by decide⟩ ⟨by decide, by decide⟩ <| ?_
  refine qc_ifB_eq (qc_at qkX12_about 2 rfl) (fun h1 => ?_) (fun h1 => ?_)
  · refine qc_bipush (qc_at qkX12_about 9 rfl) <| ?_
    refine qc_iret (qc_at qkX12_about 10 rfl) rfl (Nat.le_refl _) (Nat.le_refl _) ?_
    refine ⟨?_, rfl, rfl⟩
    unfold qx_about
    first
      | (rw [if_pos h1]; done)
      | (rw [e3] at h2
         rw [if_neg (by rw [h1]; decide), if_neg (fun e => by rw [e] at h2; revert h2; decide), if_neg (fun e => by rw [e] at h2; revert h2; decide), if_neg (fun e => by rw [e] at h2; revert h2; decide)])
  · refine qc_iload_n (qc_at qkX12_about 3 rfl) rfl <| qc_i2l (qc_at qkX12_about 4 rfl) <| qc_lconst (qc_at qkX12_about 5 rfl) <| qc_ldc2l (qc_at qkX12_about 6 rfl) <| qc_cSv (qc_at qkX12_about 7 rfl) ql_12_162 qfX12_in (sX12_in _ _ _ _ _ _ _ _) rfl rfl (by decide) ⟨by decide, by decide⟩ ⟨by decide, by decide⟩ <| ?_
    refine qc_ifB_ne (qc_at qkX12_about 8 rfl) (fun h2 => ?_) (fun h2 => ?_)
    · refine qc_iload_n (qc_at qkX12_about 11 rfl) rfl <| qc_iconst (qc_at qkX12_about 12 rfl) <| ?_
      refine qc_icmp_ne (qc_at qkX12_about 13 rfl) (fun h3 => ?_) (fun h3 => ?_)
      · refine qc_aload_n (qc_at qkX12_about 29 rfl) rfl <| qc_gR (qc_at qkX12_about 30 rfl) hn rfl (qfr_291_1 hR) rfl <| qc_iload_n (qc_at qkX12_about 31 rfl) rfl <| qc_iald 10 (qc_at qkX12_about 32 rfl) hn rfl (qc_inb_in h1) <| qc_iconst (qc_at qkX12_about 33 rfl) <| ?_
        refine qc_icmp_ne (qc_at qkX12_about 34 rfl) (fun h4 => ?_) (fun h4 => ?_)
        · refine qc_iload_n (qc_at qkX12_about 37 rfl) rfl <| ?_
          refine qc_if_ne (qc_at qkX12_about 38 rfl) (fun h5 => ?_) (fun h5 => ?_)
          · refine qc_aload_n (qc_at qkX12_about 47 rfl) rfl <| qc_gR (qc_at qkX12_about 48 rfl) hn rfl (qfr_291_3 hR) rfl <| qc_aload_n (qc_at qkX12_about 49 rfl) rfl <| qc_gR (qc_at qkX12_about 50 rfl) hn rfl (qfr_291_1 hR) rfl <| qc_iload_n (qc_at qkX12_about 51 rfl) rfl <| qc_iald 10 (qc_at qkX12_about 52 rfl) hn rfl (qc_inb_in h1) <| qc_iald 11 (qc_at qkX12_about 53 rfl) hn rfl (qx_ok_in hI (by decide) (qc_cl_lt h1) h4) <| ?_
            refine qc_iret (qc_at qkX12_about 54 rfl) rfl (Nat.le_refl _) (Nat.le_refl _) ?_
            rw [e3] at h2
            refine ⟨?_, rfl, rfl⟩
            unfold qx_about
            rw [if_neg (by rw [h1]; decide)]
            first
              | (rw [if_pos h5]; simp [qx_at, *]; done)
              | (by_cases e0 : t = 0
                 · rw [if_pos e0]; simp [qx_at, *]
                 · have e1 : t = 1 := by
        obtain ⟨j, hj, e⟩ := qc_inb_of h2 (by decide)
        rcases (show j = 0 ∨ j = 1 ∨ j = 2 by omega) with rfl | rfl | rfl
        · exact absurd e e0
        · exact e
        · exact absurd e h3
       rw [if_neg e0, if_pos e1]; simp [qx_at, *])
          · refine qc_aload_n (qc_at qkX12_about 39 rfl) rfl <| qc_gR (qc_at qkX12_about 40 rfl) hn rfl (qfr_291_2 hR) rfl <| qc_aload_n (qc_at qkX12_about 41 rfl) rfl <| qc_gR (qc_at qkX12_about 42 rfl) hn rfl (qfr_291_1 hR) rfl <| qc_iload_n (qc_at qkX12_about 43 rfl) rfl <| qc_iald 10 (qc_at qkX12_about 44 rfl) hn rfl (qc_inb_in h1) <| qc_iald 11 (qc_at qkX12_about 45 rfl) hn rfl (qx_ok_in hI (by decide) (qc_cl_lt h1) h4) <| qc_goto (qc_at qkX12_about 46 rfl) <| ?_
            refine qc_iret (qc_at qkX12_about 54 rfl) rfl (Nat.le_refl _) (Nat.le_refl _) ?_
            rw [e3] at h2
            refine ⟨?_, rfl, rfl⟩
            unfold qx_about
            rw [if_neg (by rw [h1]; decide)]
            first
              | (rw [if_pos h5]; simp [qx_at, *]; done)
              | (by_cases e0 : t = 0
                 · rw [if_pos e0]; simp [qx_at, *]
                 · have e1 : t = 1 := by
        obtain ⟨j, hj, e⟩ := qc_inb_of h2 (by decide)
        rcases (show j = 0 ∨ j = 1 ∨ j = 2 by omega) with rfl | rfl | rfl
        · exact absurd e e0
        · exact e
        · exact absurd e h3
       rw [if_neg e0, if_pos e1]; simp [qx_at, *])
        · refine qc_iconst (qc_at qkX12_about 35 rfl) <| qc_goto (qc_at qkX12_about 36 rfl) <| ?_
          refine qc_iret (qc_at qkX12_about 54 rfl) rfl (Nat.le_refl _) (Nat.le_refl _) ?_
          rw [e3] at h2
          refine ⟨?_, rfl, rfl⟩
          unfold qx_about
          rw [if_neg (by rw [h1]; decide)]
          first
            | (rw [if_pos h5]; simp [qx_at, *]; done)
            | (by_cases e0 : t = 0
               · rw [if_pos e0]; simp [qx_at, *]
               · have e1 : t = 1 := by
        obtain ⟨j, hj, e⟩ := qc_inb_of h2 (by decide)
        rcases (show j = 0 ∨ j = 1 ∨ j = 2 by omega) with rfl | rfl | rfl
        · exact absurd e e0
        · exact e
        · exact absurd e h3
       rw [if_neg e0, if_pos e1]; simp [qx_at, *])
      · refine qc_iconst (qc_at qkX12_about 14 rfl) <| qc_istore_n (lv' := [(3, _), (0, _), (1, _), (2, _)]) (qc_at qkX12_about 15 rfl) rfl rfl <| ?_
        obtain ⟨j, hj, hc⟩ := qc_inb_of h1 (by decide)
        have ec := qc_tc1 hc (by omega)
        have e4 : (qx_about I 292 293 294 c t) = nI (qc_ls (qx_like I 292 j) j) := by
          unfold qx_about
          rw [if_neg (by rw [h1]; decide), if_neg (by rw [h3]; decide), if_neg (by rw [h3]; decide), if_pos h3, ec]
        rw [e4]
        exact qc_sub [1, 2, 3, 0] rfl (lX12_about w I L D R hn hR j hj c t hc 11 0 0 rfl (by omega) (by omega) (fun d hd => absurd hd (Nat.not_lt_zero d)))
    · refine qc_bipush (qc_at qkX12_about 9 rfl) <| ?_
      refine qc_iret (qc_at qkX12_about 10 rfl) rfl (Nat.le_refl _) (Nat.le_refl _) ?_
      refine ⟨?_, rfl, rfl⟩
      unfold qx_about
      first
        | (rw [if_pos h1]; done)
        | (rw [e3] at h2
           rw [if_neg (by rw [h1]; decide), if_neg (fun e => by rw [e] at h2; revert h2; decide), if_neg (fun e => by rw [e] at h2; revert h2; decide), if_neg (fun e => by rw [e] at h2; revert h2; decide)])
set_option maxRecDepth 100000 in
set_option maxHeartbeats 4000000 in
theorem lX12_count (w : qcW) (I : Nat → Nat → Int32) (L : Nat → Nat → Int64) (D : Nat → Nat → UInt64) (R : Nat → Nat → Nat) (hn : qcNF ≤ w.1) (hR : qc_FR R) (t : Int32) : ∀ (k : Nat) (j : Nat) (x y : Int32) (hx : x = nI j) (hj : j ≤ 10) (hk : 10 - j < k) (hy : y = nI (qc_cnt (qx_has I 292) j)), qc_X (qc_rm 0 0 0) qmX12_count (qc_QM 0 0 (qc_eq (some (.int (nI (qc_cnt (qx_has I 292) 10)))) w (I, L, D, R))) 0 0 w (9, [(0, .ref 291), (1, .int t), (2, .int y), (3, .int x)], [], I, L, D, R) := by
  intro k
  induction k with
  | zero => intro j x y hx hj hk; omega
  | succ k ih =>
    intro j x y hx hj hk hy
    have tx := qc_ti hx (by omega)
    refine qc_iload_n (qc_at qkX12_count 7 rfl) rfl <| qc_bipush (qc_at qkX12_count 8 rfl) <| ?_
    refine qc_icmp_ge (qc_at qkX12_count 9 rfl) (fun h1 => ?_) (fun h1 => ?_)
    · refine qc_iload_n (qc_at qkX12_count 24 rfl) rfl <| ?_
      refine qc_iret (qc_at qkX12_count 25 rfl) rfl (Nat.le_refl _) (Nat.le_refl _) ?_
      have e10 : j = 10 := by simp only [Int32.lt_iff_toInt_lt, Int32.le_iff_toInt_le, Int32.reduceToInt] at *; omega
      exact ⟨by rw [hy, e10], rfl, rfl⟩
    · refine qc_iload_n (qc_at qkX12_count 10 rfl) rfl <| qc_aload_n (qc_at qkX12_count 11 rfl) rfl <| qc_gR (qc_at qkX12_count 12 rfl) hn rfl (qfr_291_1 hR) rfl <| qc_iload_n (qc_at qkX12_count 13 rfl) rfl <| qc_iald 10 (qc_at qkX12_count 14 rfl) hn rfl (qc_inI (by simp only [Int32.lt_iff_toInt_lt, Int32.le_iff_toInt_le, Int32.reduceToInt] at *; omega) (by simp only [Int32.lt_iff_toInt_lt, Int32.le_iff_toInt_le, Int32.reduceToInt] at *; omega)) <| qc_iconst (qc_at qkX12_count 15 rfl) <| ?_
      refine qc_icmp_ne (qc_at qkX12_count 16 rfl) (fun h2 => ?_) (fun h2 => ?_)
      · refine qc_iconst (qc_at qkX12_count 19 rfl) <| qc_iadd (qc_at qkX12_count 20 rfl) <| qc_istore_n (lv' := [(2, _), (0, _), (1, _), (3, _)]) (qc_at qkX12_count 21 rfl) rfl rfl <| qc_iinc (lv' := [(3, _), (2, _), (0, _), (1, _)]) (qc_at qkX12_count 22 rfl) rfl rfl rfl <| qc_goto (qc_at qkX12_count 23 rfl) <| ?_
        refine qc_sub [2, 3, 1, 0] rfl ?_
        refine ih (j + 1) _ _ (qc_s1x hx) (by simp only [Int32.lt_iff_toInt_lt, Int32.le_iff_toInt_le, Int32.reduceToInt] at *; omega) (by simp only [Int32.lt_iff_toInt_lt, Int32.le_iff_toInt_le, Int32.reduceToInt] at *; omega) ?_
        rw [qc_tc1 hx (by omega)] at h2
        rw [hy]; simp [qc_cnt, qx_has, h2, nI_1]
      · refine qc_iconst (qc_at qkX12_count 17 rfl) <| qc_goto (qc_at qkX12_count 18 rfl) <| qc_iadd (qc_at qkX12_count 20 rfl) <| qc_istore_n (lv' := [(2, _), (0, _), (1, _), (3, _)]) (qc_at qkX12_count 21 rfl) rfl rfl <| qc_iinc (lv' := [(3, _), (2, _), (0, _), (1, _)]) (qc_at qkX12_count 22 rfl) rfl rfl rfl <| qc_goto (qc_at qkX12_count 23 rfl) <| ?_
        refine qc_sub [2, 3, 1, 0] rfl ?_
        refine ih (j + 1) _ _ (qc_s1x hx) (by simp only [Int32.lt_iff_toInt_lt, Int32.le_iff_toInt_le, Int32.reduceToInt] at *; omega) (by simp only [Int32.lt_iff_toInt_lt, Int32.le_iff_toInt_le, Int32.reduceToInt] at *; omega) ?_
        rw [qc_tc1 hx (by omega)] at h2
        rw [hy]; simp [qc_cnt, qx_has, h2, nI_1]
set_option maxRecDepth 100000 in
set_option maxHeartbeats 4000000 in
theorem sX12_count (w : qcW) (I : Nat → Nat → Int32) (L : Nat → Nat → Int64) (D : Nat → Nat → UInt64) (R : Nat → Nat → Nat) (hn : qcNF ≤ w.1) (hR : qc_FR R) (t : Int32) : qc_V 0 0 0 qmX12_count [.ref 291, .int t] w (I, L, D, R) (qc_eq (some (.int (if t = 0 then I 291 0 else if t = 1 then nI (qc_cnt (qx_has I 292) 10) else if t = 2 then I 291 40 else if t = 3 then I 291 7 else -1))) w (I, L, D, R)) := by
  refine qc_V.of rfl rfl (Nat.le_of_ble_eq_true rfl) (lv := [(0, .ref 291), (1, .int t)]) rfl ?_
  refine qc_iload_n (qc_at qkX12_count 0 rfl) rfl <| qc_iconst (qc_at qkX12_count 1 rfl) <| ?_
  refine qc_icmp_ne (qc_at qkX12_count 2 rfl) (fun h1 => ?_) (fun h1 => ?_)
  · refine qc_iload_n (qc_at qkX12_count 26 rfl) rfl <| ?_
    refine qc_if_ne (qc_at qkX12_count 27 rfl) (fun h2 => ?_) (fun h2 => ?_)
    · refine qc_iload_n (qc_at qkX12_count 31 rfl) rfl <| qc_iconst (qc_at qkX12_count 32 rfl) <| ?_
      refine qc_icmp_ne (qc_at qkX12_count 33 rfl) (fun h3 => ?_) (fun h3 => ?_)
      · refine qc_iload_n (qc_at qkX12_count 37 rfl) rfl <| qc_iconst (qc_at qkX12_count 38 rfl) <| ?_
        refine qc_icmp_ne (qc_at qkX12_count 39 rfl) (fun h4 => ?_) (fun h4 => ?_)
        · refine qc_iconst (qc_at qkX12_count 43 rfl) <| ?_
          refine qc_iret (qc_at qkX12_count 44 rfl) rfl (Nat.le_refl _) (Nat.le_refl _) ?_
          exact ⟨by simp [*], rfl, rfl⟩
        · refine qc_aload_n (qc_at qkX12_count 40 rfl) rfl <| qc_gI (qc_at qkX12_count 41 rfl) hn rfl <| qc_goto (qc_at qkX12_count 42 rfl) <| ?_
          refine qc_iret (qc_at qkX12_count 44 rfl) rfl (Nat.le_refl _) (Nat.le_refl _) ?_
          exact ⟨by simp [*], rfl, rfl⟩
      · refine qc_aload_n (qc_at qkX12_count 34 rfl) rfl <| qc_gI (qc_at qkX12_count 35 rfl) hn rfl <| qc_goto (qc_at qkX12_count 36 rfl) <| ?_
        refine qc_iret (qc_at qkX12_count 44 rfl) rfl (Nat.le_refl _) (Nat.le_refl _) ?_
        exact ⟨by simp [*], rfl, rfl⟩
    · refine qc_aload_n (qc_at qkX12_count 28 rfl) rfl <| qc_gI (qc_at qkX12_count 29 rfl) hn rfl <| qc_goto (qc_at qkX12_count 30 rfl) <| ?_
      refine qc_iret (qc_at qkX12_count 44 rfl) rfl (Nat.le_refl _) (Nat.le_refl _) ?_
      exact ⟨by simp [*], rfl, rfl⟩
  · refine qc_iconst (qc_at qkX12_count 3 rfl) <| qc_istore_n (lv' := [(2, _), (0, _), (1, _)]) (qc_at qkX12_count 4 rfl) rfl rfl <| qc_iconst (qc_at qkX12_count 5 rfl) <| qc_istore_n (lv' := [(3, _), (2, _), (0, _), (1, _)]) (qc_at qkX12_count 6 rfl) rfl rfl <| ?_
    rw [h1]
    exact qc_sub [2, 3, 1, 0] rfl (lX12_count w I L D R hn hR 1 11 0 0 0 rfl (by omega) (by omega) rfl)
