/-! QueryClasses: the calls that need no text and no run -/
def qx_by (v : Int32) (k : Nat) : Int32 := (v.toUInt32 >>> ((nI (24 - 8 * k)).toUInt32 &&& Int32.toUInt32 31)).toInt32 &&& 255
theorem qc_m8 {x : Int32} {j : Nat} (hx : x = nI (24 - 8 * j)) (hj : j < 3) : x + (-8) = nI (24 - 8 * (j + 1)) := by
  rcases (show j = 0 ∨ j = 1 ∨ j = 2 by omega) with rfl | rfl | rfl <;> subst hx <;> rfl
set_option maxRecDepth 100000 in
set_option maxHeartbeats 4000000 in
theorem lX10_append (w : qcW) (I : Nat → Nat → Int32) (L : Nat → Nat → Int64) (D : Nat → Nat → UInt64) (R : Nat → Nat → Nat) (hn : qcNF ≤ w.1) (hR : qc_FR R) (v : Int32) (n : Nat) (hn4 : n + 4 ≤ 400) : ∀ (k : Nat) (j : Nat) (x : Int32) (I1 : Nat → Nat → Int32) (hx : (j < 4 ∧ x = nI (24 - 8 * j)) ∨ (j = 4 ∧ x = -8)) (hk : 4 - j < k) (hI : I1 = qx_app I 266 265 1 n j (qx_by v)), qc_X (qc_rm 0 0 0) qmX10_append (qc_QM 0 0 (qc_eq none w (qx_app I 266 265 1 n 4 (qx_by v), L, D, R))) 0 0 w (3, [(0, .ref 265), (1, .int v), (2, .int x)], [], I1, L, D, R) := by
  intro k
  induction k with
  | zero => intro j x I1 hx hk; omega
  | succ k ih =>
    intro j x I1 hx hk hI
    have e1 : I1 265 1 = nI (n + j) := by rw [hI]; exact qx_app_len
    refine qc_iload_n (qc_at qkX10_append 2 rfl) rfl <| ?_
    refine qc_if_lt (qc_at qkX10_append 3 rfl) (fun h1 => ?_) (fun h1 => ?_)
    · refine qc_vret (qc_at qkX10_append 26 rfl) rfl (Nat.le_refl _) (Nat.le_refl _) ?_
      obtain ⟨e4, -⟩ : j = 4 ∧ x = -8 := by
        rcases hx with hx | hx
        · have t := qc_ti hx.2 (by omega); exfalso; simp only [Int32.lt_iff_toInt_lt, Int32.le_iff_toInt_le, Int32.reduceToInt] at *; omega
        · exact hx
      rw [e4] at hI
      rw [hI]
      exact qc_eq.rf _ _ _
    · obtain ⟨j4, hx2⟩ : j < 4 ∧ x = nI (24 - 8 * j) := by
        rcases hx with hx | hx
        · exact hx
        · rw [hx.2] at h1; exact absurd (by decide) h1
      have ecl := qc_tc1 e1 (by omega)
      have t1 := qc_ti e1 (by omega)
      have hin : vp_in (I1 265 1) 400 := by rw [e1]; exact vp_in_nI (by omega) (by decide)
      have e2 : ∀ z, qc_u I1 266 (n + j) z 265 1 + 1 = nI (n + (j + 1)) := fun z => by rw [qc_u_ne _ _ (Or.inl (by decide)), e1]; exact nI_1 _
      refine qc_aload_n (qc_at qkX10_append 4 rfl) rfl <| qc_gI (qc_at qkX10_append 5 rfl) hn rfl <| qc_sipush (qc_at qkX10_append 6 rfl) <| ?_
      refine qc_icmp_ge (qc_at qkX10_append 7 rfl) (fun h2 => ?_) (fun h2 => ?_)
      · refine qc_iinc (lv' := [(2, _), (0, _), (1, _)]) (qc_at qkX10_append 24 rfl) rfl rfl rfl <| qc_goto (qc_at qkX10_append 25 rfl) <| ?_
        refine qc_sub [1, 2, 0] rfl ?_
        refine ih (j + 1) _ _ ?_ (by omega) ?_
        · by_cases e : j = 3
          · subst e; rw [hx2]; exact Or.inr ⟨rfl, rfl⟩
          · exact Or.inl ⟨by omega, qc_m8 hx2 (by omega)⟩
        · first | (exfalso; simp only [Int32.lt_iff_toInt_lt, Int32.le_iff_toInt_le, Int32.reduceToInt] at *; omega) | (rw [← qx_app_s (by decide), ← hI, ecl, e2, hx2]; rfl)
      · refine qc_aload_n (qc_at qkX10_append 8 rfl) rfl <| qc_gR (qc_at qkX10_append 9 rfl) hn rfl (qfr_265_0 hR) rfl <| qc_aload_n (qc_at qkX10_append 10 rfl) rfl <| qc_gI (qc_at qkX10_append 11 rfl) hn rfl <| qc_iload_n (qc_at qkX10_append 12 rfl) rfl <| qc_iload_n (qc_at qkX10_append 13 rfl) rfl <| qc_iushr (qc_at qkX10_append 14 rfl) <| qc_sipush (qc_at qkX10_append 15 rfl) <| qc_iand (qc_at qkX10_append 16 rfl) <| qc_iast 400 (qc_at qkX10_append 17 rfl) hn rfl hin <| qc_aload_n (qc_at qkX10_append 18 rfl) rfl <| qc_dup (qc_at qkX10_append 19 rfl) rfl <| qc_gI (qc_at qkX10_append 20 rfl) hn rfl <| qc_iconst (qc_at qkX10_append 21 rfl) <| qc_iadd (qc_at qkX10_append 22 rfl) <| qc_pI (qc_at qkX10_append 23 rfl) hn rfl <| qc_iinc (lv' := [(2, _), (0, _), (1, _)]) (qc_at qkX10_append 24 rfl) rfl rfl rfl <| qc_goto (qc_at qkX10_append 25 rfl) <| ?_
        refine qc_sub [1, 2, 0] rfl ?_
        refine ih (j + 1) _ _ ?_ (by omega) ?_
        · by_cases e : j = 3
          · subst e; rw [hx2]; exact Or.inr ⟨rfl, rfl⟩
          · exact Or.inl ⟨by omega, qc_m8 hx2 (by omega)⟩
        · first | (exfalso; simp only [Int32.lt_iff_toInt_lt, Int32.le_iff_toInt_le, Int32.reduceToInt] at *; omega) | (rw [← qx_app_s (by decide), ← hI, ecl, e2, hx2]; rfl)
set_option maxRecDepth 100000 in
set_option maxHeartbeats 4000000 in
theorem sX10_append (w : qcW) (I : Nat → Nat → Int32) (L : Nat → Nat → Int64) (D : Nat → Nat → UInt64) (R : Nat → Nat → Nat) (hn : qcNF ≤ w.1) (hR : qc_FR R) (v : Int32) (n : Nat) (hl : I 265 1 = nI n) (hn4 : n + 4 ≤ 400) : qc_V 0 0 0 qmX10_append [.ref 265, .int v] w (I, L, D, R) (qc_eq none w (qx_app I 266 265 1 n 4 (qx_by v), L, D, R)) := by
  refine qc_V.of rfl rfl (Nat.le_of_ble_eq_true rfl) (lv := [(0, .ref 265), (1, .int v)]) rfl ?_
  refine qc_bipush (qc_at qkX10_append 0 rfl) <| qc_istore_n (lv' := [(2, _), (0, _), (1, _)]) (qc_at qkX10_append 1 rfl) rfl rfl <| ?_
  exact qc_sub [1, 2, 0] rfl (lX10_append w I L D R hn hR v n hn4 5 0 24 I (Or.inl ⟨by omega, rfl⟩) (by omega) (qx_app_0 hl).symm)
set_option maxRecDepth 100000 in
set_option maxHeartbeats 4000000 in
theorem sX11_objects (w : qcW) (I : Nat → Nat → Int32) (L : Nat → Nat → Int64) (D : Nat → Nat → UInt64) (R : Nat → Nat → Nat) (hn : qcNF ≤ w.1) (hR : qc_FR R) (n : Int32) : qc_V 0 0 0 qmX11_objects [.ref 256, .int n] w (I, L, D, R) (qc_eq (some (.int (cond (qc_inb n 17) (I 256 7) (-1)))) w (cond (qc_inb n 17) (qc_u I 256 7 n) I, L, D, R)) := by
  refine qc_V.of rfl rfl (Nat.le_of_ble_eq_true rfl) (lv := [(0, .ref 256), (1, .int n)]) rfl ?_
  refine qc_iload_n (qc_at qkX11_objects 0 rfl) rfl <| ?_
  refine qc_if_lt (qc_at qkX11_objects 1 rfl) (fun h1 => ?_) (fun h1 => ?_)
  · refine qc_iconst (qc_at qkX11_objects 5 rfl) <| ?_
    refine qc_iret (qc_at qkX11_objects 6 rfl) rfl (Nat.le_refl _) (Nat.le_refl _) ?_
    first | (rw [qc_ib0 (by simp only [Int32.lt_iff_toInt_lt, Int32.le_iff_toInt_le, Int32.reduceToInt] at *; omega)]; exact ⟨rfl, rfl, rfl⟩) | (rw [qc_ib1 (by simp only [Int32.lt_iff_toInt_lt, Int32.le_iff_toInt_le, Int32.reduceToInt] at *; omega) (by simp only [Int32.lt_iff_toInt_lt, Int32.le_iff_toInt_le, Int32.reduceToInt] at *; omega)]; exact ⟨rfl, rfl, rfl⟩)
  · refine qc_iload_n (qc_at qkX11_objects 2 rfl) rfl <| qc_bipush (qc_at qkX11_objects 3 rfl) <| ?_
    refine qc_icmp_le (qc_at qkX11_objects 4 rfl) (fun h2 => ?_) (fun h2 => ?_)
    · refine qc_aload_n (qc_at qkX11_objects 7 rfl) rfl <| qc_gI (qc_at qkX11_objects 8 rfl) hn rfl <| qc_istore_n (lv' := [(2, _), (0, _), (1, _)]) (qc_at qkX11_objects 9 rfl) rfl rfl <| qc_aload_n (qc_at qkX11_objects 10 rfl) rfl <| qc_iload_n (qc_at qkX11_objects 11 rfl) rfl <| qc_pI (qc_at qkX11_objects 12 rfl) hn rfl <| qc_iload_n (qc_at qkX11_objects 13 rfl) rfl <| ?_
      refine qc_iret (qc_at qkX11_objects 14 rfl) rfl (Nat.le_refl _) (Nat.le_refl _) ?_
      first | (rw [qc_ib0 (by simp only [Int32.lt_iff_toInt_lt, Int32.le_iff_toInt_le, Int32.reduceToInt] at *; omega)]; exact ⟨rfl, rfl, rfl⟩) | (rw [qc_ib1 (by simp only [Int32.lt_iff_toInt_lt, Int32.le_iff_toInt_le, Int32.reduceToInt] at *; omega) (by simp only [Int32.lt_iff_toInt_lt, Int32.le_iff_toInt_le, Int32.reduceToInt] at *; omega)]; exact ⟨rfl, rfl, rfl⟩)
    · refine qc_iconst (qc_at qkX11_objects 5 rfl) <| ?_
      refine qc_iret (qc_at qkX11_objects 6 rfl) rfl (Nat.le_refl _) (Nat.le_refl _) ?_
      first | (rw [qc_ib0 (by simp only [Int32.lt_iff_toInt_lt, Int32.le_iff_toInt_le, Int32.reduceToInt] at *; omega)]; exact ⟨rfl, rfl, rfl⟩) | (rw [qc_ib1 (by simp only [Int32.lt_iff_toInt_lt, Int32.le_iff_toInt_le, Int32.reduceToInt] at *; omega) (by simp only [Int32.lt_iff_toInt_lt, Int32.le_iff_toInt_le, Int32.reduceToInt] at *; omega)]; exact ⟨rfl, rfl, rfl⟩)
set_option maxRecDepth 100000 in
set_option maxHeartbeats 4000000 in
theorem sX11_fault (w : qcW) (I : Nat → Nat → Int32) (L : Nat → Nat → Int64) (D : Nat → Nat → UInt64) (R : Nat → Nat → Nat) (hn : qcNF ≤ w.1) (hR : qc_FR R) : qc_V 0 0 0 qmX11_fault [.ref 256] w (I, L, D, R) (qc_eq (some (.int (I 256 8))) w (I, L, D, R)) := by
  refine qc_V.of rfl rfl (Nat.le_of_ble_eq_true rfl) (lv := [(0, .ref 256)]) rfl ?_
  refine qc_aload_n (qc_at qkX11_fault 0 rfl) rfl <| qc_gI (qc_at qkX11_fault 1 rfl) hn rfl <| ?_
  refine qc_iret (qc_at qkX11_fault 2 rfl) rfl (Nat.le_refl _) (Nat.le_refl _) ?_
  exact qc_eq.rf _ _ _
theorem qc_free_c {I : Nat → Nat → Int32} {c : Int32} (h : qc_inb c 10 = true) : qx_fr (qc_u I 258 c.toNatClampNeg (-1)) 258 10 < 10 := qx_free (c0 := c.toNatClampNeg) (qc_cl_lt h) (qc_u_at I _ _ _)
/-- a column made anew, of a lane and a size -/
def qx_mk (I : Nat → Nat → Int32) (c : Nat) (l n : Int32) : Nat → Nat → Int32 := qc_u (qc_u (qc_u (qc_u I 258 c (-1)) 259 (qx_fr (qc_u I 258 c (-1)) 258 10) l) 260 (qx_fr (qc_u I 258 c (-1)) 258 10) n) 258 c (nI (qx_fr (qc_u I 258 c (-1)) 258 10))
set_option maxRecDepth 100000 in
set_option maxHeartbeats 4000000 in
theorem sX11_column (w : qcW) (I : Nat → Nat → Int32) (L : Nat → Nat → Int64) (D : Nat → Nat → UInt64) (R : Nat → Nat → Nat) (hn : qcNF ≤ w.1) (hR : qc_FR R) (c l n : Int32) : qc_V 3 0 0 qmX11_column [.ref 256, .int c, .int l, .int n] w (I, L, D, R) (fun r w1 M1 => w1 = w ∧ (((qc_inb c 10 && qc_inb l 8 && qc_inb n 17) = true ∧ r = some (.int 1) ∧ M1 = (qx_mk I c.toNatClampNeg l n, qc_fill L 261 (qx_fr (qc_u I 258 c.toNatClampNeg (-1)) 258 10 * 16) 16 0, qc_fill D 262 (qx_fr (qc_u I 258 c.toNatClampNeg (-1)) 258 10 * 16) 16 0, R)) ∨ ((qc_inb c 10 && qc_inb l 8 && qc_inb n 17) = false ∧ r = some (.int (-1)) ∧ M1 = (I, L, D, R)))) := by
  refine qc_V.of rfl rfl (Nat.le_of_ble_eq_true rfl) (lv := [(0, .ref 256), (1, .int c), (2, .int l), (3, .int n)]) rfl ?_
  refine qc_iload_n (qc_at qkX11_column 0 rfl) rfl <| qc_cSv (qc_at qkX11_column 1 rfl) ql_11_71 qfX1_isColumn (sX1_isColumn _ _ _ _ _ _) rfl rfl (by decide) ⟨by decide, by decide⟩ ⟨by decide, by decide⟩ <| ?_
  refine qc_ifB_eq (qc_at qkX11_column 2 rfl) (fun h1 => ?_) (fun h1 => ?_)
  · refine qc_iconst (qc_at qkX11_column 11 rfl) <| ?_
    refine qc_iret (qc_at qkX11_column 12 rfl) rfl (Nat.le_refl _) (Nat.le_refl _) ?_
    refine ⟨rfl, Or.inr ⟨?_, rfl, rfl⟩⟩
    first | (rw [h1]; rfl) | (rw [h2, Bool.and_false]; rfl) | (rw [qc_ib0 (n := 17) (by clear h1 h2; simp only [Int32.lt_iff_toInt_lt, Int32.le_iff_toInt_le, Int32.reduceToInt] at *; omega), Bool.and_false])
  · refine qc_iload_n (qc_at qkX11_column 3 rfl) rfl <| qc_cSv (qc_at qkX11_column 4 rfl) ql_11_75 qfX1_isLane (sX1_isLane _ _ _ _ _ _) rfl rfl (by decide) ⟨by decide, by decide⟩ ⟨by decide, by decide⟩ <| ?_
    refine qc_ifB_eq (qc_at qkX11_column 5 rfl) (fun h2 => ?_) (fun h2 => ?_)
    · refine qc_iconst (qc_at qkX11_column 11 rfl) <| ?_
      refine qc_iret (qc_at qkX11_column 12 rfl) rfl (Nat.le_refl _) (Nat.le_refl _) ?_
      refine ⟨rfl, Or.inr ⟨?_, rfl, rfl⟩⟩
      first | (rw [h1]; rfl) | (rw [h2, Bool.and_false]; rfl) | (rw [qc_ib0 (n := 17) (by clear h1 h2; simp only [Int32.lt_iff_toInt_lt, Int32.le_iff_toInt_le, Int32.reduceToInt] at *; omega), Bool.and_false])
    · refine qc_iload_n (qc_at qkX11_column 6 rfl) rfl <| ?_
      refine qc_if_lt (qc_at qkX11_column 7 rfl) (fun h3 => ?_) (fun h3 => ?_)
      · refine qc_iconst (qc_at qkX11_column 11 rfl) <| ?_
        refine qc_iret (qc_at qkX11_column 12 rfl) rfl (Nat.le_refl _) (Nat.le_refl _) ?_
        refine ⟨rfl, Or.inr ⟨?_, rfl, rfl⟩⟩
        first | (rw [h1]; rfl) | (rw [h2, Bool.and_false]; rfl) | (rw [qc_ib0 (n := 17) (by clear h1 h2; simp only [Int32.lt_iff_toInt_lt, Int32.le_iff_toInt_le, Int32.reduceToInt] at *; omega), Bool.and_false])
      · refine qc_iload_n (qc_at qkX11_column 8 rfl) rfl <| qc_bipush (qc_at qkX11_column 9 rfl) <| ?_
        refine qc_icmp_le (qc_at qkX11_column 10 rfl) (fun h4 => ?_) (fun h4 => ?_)
        · refine qc_aload_n (qc_at qkX11_column 13 rfl) rfl <| qc_gR (qc_at qkX11_column 14 rfl) hn rfl (qfr_256_0 hR) rfl <| qc_iload_n (qc_at qkX11_column 15 rfl) rfl <| qc_iload_n (qc_at qkX11_column 16 rfl) rfl <| qc_iload_n (qc_at qkX11_column 17 rfl) rfl <| qc_cVn (ci := 1) (a0 := 257) (qc_at qkX11_column 18 rfl) ql_11_78 qfX1_make (qc_kf hn rfl) rfl (sX1_make _ _ _ _ _ hn hR _ _ _ h1 _ rfl (qc_free_c h1)) rfl rfl (by decide) ⟨by decide, by decide⟩ ⟨by decide, by decide⟩ <| qc_iconst (qc_at qkX11_column 19 rfl) <| ?_
          refine qc_iret (qc_at qkX11_column 20 rfl) rfl (Nat.le_refl _) (Nat.le_refl _) ?_
          exact ⟨rfl, Or.inl ⟨by rw [h1, h2, qc_ib1 (n := 17) (by clear h1 h2; simp only [Int32.lt_iff_toInt_lt, Int32.le_iff_toInt_le, Int32.reduceToInt] at *; omega) (by clear h1 h2; simp only [Int32.lt_iff_toInt_lt, Int32.le_iff_toInt_le, Int32.reduceToInt] at *; omega)]; rfl, rfl, rfl⟩⟩
        · refine qc_iconst (qc_at qkX11_column 11 rfl) <| ?_
          refine qc_iret (qc_at qkX11_column 12 rfl) rfl (Nat.le_refl _) (Nat.le_refl _) ?_
          refine ⟨rfl, Or.inr ⟨?_, rfl, rfl⟩⟩
          first | (rw [h1]; rfl) | (rw [h2, Bool.and_false]; rfl) | (rw [qc_ib0 (n := 17) (by clear h1 h2; simp only [Int32.lt_iff_toInt_lt, Int32.le_iff_toInt_le, Int32.reduceToInt] at *; omega), Bool.and_false])
set_option maxRecDepth 100000 in
set_option maxHeartbeats 4000000 in
theorem sX11_share (w : qcW) (I : Nat → Nat → Int32) (L : Nat → Nat → Int64) (D : Nat → Nat → UInt64) (R : Nat → Nat → Nat) (hn : qcNF ≤ w.1) (hR : qc_FR R) (c d : Int32) : qc_V 1 0 0 qmX11_share [.ref 256, .int c, .int d] w (I, L, D, R) (qc_eq (some (.int (cond (qc_inb c 10 && qc_inb d 10) 1 (-1)))) w (cond (qc_inb c 10 && qc_inb d 10) (qc_u I 258 c.toNatClampNeg (I 258 d.toNatClampNeg)) I, L, D, R)) := by
  refine qc_V.of rfl rfl (Nat.le_of_ble_eq_true rfl) (lv := [(0, .ref 256), (1, .int c), (2, .int d)]) rfl ?_
  refine qc_iload_n (qc_at qkX11_share 0 rfl) rfl <| qc_cSv (qc_at qkX11_share 1 rfl) ql_11_71 qfX1_isColumn (sX1_isColumn _ _ _ _ _ _) rfl rfl (by decide) ⟨by decide, by decide⟩ ⟨by decide, by decide⟩ <| ?_
  refine qc_ifB_eq (qc_at qkX11_share 2 rfl) (fun h1 => ?_) (fun h1 => ?_)
  · refine qc_iconst (qc_at qkX11_share 6 rfl) <| ?_
    refine qc_iret (qc_at qkX11_share 7 rfl) rfl (Nat.le_refl _) (Nat.le_refl _) ?_
    first | (rw [h1, h2]; exact ⟨rfl, rfl, rfl⟩) | (rw [h1]; exact ⟨rfl, rfl, rfl⟩)
  · refine qc_iload_n (qc_at qkX11_share 3 rfl) rfl <| qc_cSv (qc_at qkX11_share 4 rfl) ql_11_71 qfX1_isColumn (sX1_isColumn _ _ _ _ _ _) rfl rfl (by decide) ⟨by decide, by decide⟩ ⟨by decide, by decide⟩ <| ?_
    refine qc_ifB_ne (qc_at qkX11_share 5 rfl) (fun h2 => ?_) (fun h2 => ?_)
    · refine qc_aload_n (qc_at qkX11_share 8 rfl) rfl <| qc_gR (qc_at qkX11_share 9 rfl) hn rfl (qfr_256_0 hR) rfl <| qc_iload_n (qc_at qkX11_share 10 rfl) rfl <| qc_iload_n (qc_at qkX11_share 11 rfl) rfl <| qc_cVn (ci := 1) (a0 := 257) (qc_at qkX11_share 12 rfl) ql_11_82 qfX1_unite (qc_kf hn rfl) rfl (sX1_unite _ _ _ _ _ hn hR _ _ h1 h2) rfl rfl (by decide) ⟨by decide, by decide⟩ ⟨by decide, by decide⟩ <| qc_iconst (qc_at qkX11_share 13 rfl) <| ?_
      refine qc_iret (qc_at qkX11_share 14 rfl) rfl (Nat.le_refl _) (Nat.le_refl _) ?_
      first | (rw [h1, h2]; exact ⟨rfl, rfl, rfl⟩) | (rw [h1]; exact ⟨rfl, rfl, rfl⟩)
    · refine qc_iconst (qc_at qkX11_share 6 rfl) <| ?_
      refine qc_iret (qc_at qkX11_share 7 rfl) rfl (Nat.le_refl _) (Nat.le_refl _) ?_
      first | (rw [h1, h2]; exact ⟨rfl, rfl, rfl⟩) | (rw [h1]; exact ⟨rfl, rfl, rfl⟩)
set_option maxRecDepth 100000 in
set_option maxHeartbeats 4000000 in
theorem sX11_drop (w : qcW) (I : Nat → Nat → Int32) (L : Nat → Nat → Int64) (D : Nat → Nat → UInt64) (R : Nat → Nat → Nat) (hn : qcNF ≤ w.1) (hR : qc_FR R) (c : Int32) : qc_V 1 0 0 qmX11_drop [.ref 256, .int c] w (I, L, D, R) (qc_eq (some (.int (cond (qc_inb c 10) (qc_b (!decide (I 258 c.toNatClampNeg = -1))) (-1)))) w (cond (qc_inb c 10) (qc_u I 258 c.toNatClampNeg (-1)) I, L, D, R)) := by
  refine qc_V.of rfl rfl (Nat.le_of_ble_eq_true rfl) (lv := [(0, .ref 256), (1, .int c)]) rfl ?_
  refine qc_iload_n (qc_at qkX11_drop 0 rfl) rfl <| qc_cSv (qc_at qkX11_drop 1 rfl) ql_11_71 qfX1_isColumn (sX1_isColumn _ _ _ _ _ _) rfl rfl (by decide) ⟨by decide, by decide⟩ ⟨by decide, by decide⟩ <| ?_
  refine qc_ifB_ne (qc_at qkX11_drop 2 rfl) (fun h1 => ?_) (fun h1 => ?_)
  · refine qc_aload_n (qc_at qkX11_drop 5 rfl) rfl <| qc_gR (qc_at qkX11_drop 6 rfl) hn rfl (qfr_256_0 hR) rfl <| qc_iload_n (qc_at qkX11_drop 7 rfl) rfl <| qc_cVv (ci := 1) (a0 := 257) (qc_at qkX11_drop 8 rfl) ql_11_86 qfX1_lose (qc_kf hn rfl) rfl (sX1_lose _ _ _ _ _ hn hR _ h1) rfl rfl (by decide) ⟨by decide, by decide⟩ ⟨by decide, by decide⟩ <| ?_
    refine qc_ifB_eq (qc_at qkX11_drop 9 rfl) (fun h2 => ?_) (fun h2 => ?_)
    · refine qc_iconst (qc_at qkX11_drop 12 rfl) <| ?_
      refine qc_iret (qc_at qkX11_drop 13 rfl) rfl (Nat.le_refl _) (Nat.le_refl _) ?_
      rw [h1]
      first | exact ⟨rfl, rfl, rfl⟩ | exact ⟨by rw [h2]; rfl, rfl, rfl⟩
    · refine qc_iconst (qc_at qkX11_drop 10 rfl) <| qc_goto (qc_at qkX11_drop 11 rfl) <| ?_
      refine qc_iret (qc_at qkX11_drop 13 rfl) rfl (Nat.le_refl _) (Nat.le_refl _) ?_
      rw [h1]
      first | exact ⟨rfl, rfl, rfl⟩ | exact ⟨by rw [h2]; rfl, rfl, rfl⟩
  · refine qc_iconst (qc_at qkX11_drop 3 rfl) <| ?_
    refine qc_iret (qc_at qkX11_drop 4 rfl) rfl (Nat.le_refl _) (Nat.le_refl _) ?_
    rw [h1]
    first | exact ⟨rfl, rfl, rfl⟩ | exact ⟨by rw [h2]; rfl, rfl, rfl⟩
def qx_about (I : Nat → Nat → Int32) (a al as : Nat) (c t : Int32) : Int32 := if qc_inb c 10 = false then -2 else if t = 0 then qx_at I a al c else if t = 1 then qx_at I a as c else if t = 2 then nI (qc_ls (qx_like I a c.toNatClampNeg) c.toNatClampNeg) else -2
set_option maxRecDepth 100000 in
set_option maxHeartbeats 4000000 in
theorem sX11_about (w : qcW) (I : Nat → Nat → Int32) (L : Nat → Nat → Int64) (D : Nat → Nat → UInt64) (R : Nat → Nat → Nat) (hn : qcNF ≤ w.1) (hR : qc_FR R) (hI : qx_ok I 258 10) (c t : Int32) : qc_V 2 0 0 qmX11_about [.ref 256, .int c, .int t] w (I, L, D, R) (qc_eq (some (.int (qx_about I 258 259 260 c t))) w (I, L, D, R)) := by
  refine qc_V.of rfl rfl (Nat.le_of_ble_eq_true rfl) (lv := [(0, .ref 256), (1, .int c), (2, .int t)]) rfl ?_
  refine qc_iload_n (qc_at qkX11_about 0 rfl) rfl <| qc_cSv (qc_at qkX11_about 1 rfl) ql_11_71 qfX1_isColumn (sX1_isColumn _ _ _ _ _ _) rfl rfl (by decide) ⟨by decide, by decide⟩ ⟨by decide, by decide⟩ <| ?_
  refine qc_ifB_ne (qc_at qkX11_about 2 rfl) (fun h1 => ?_) (fun h1 => ?_)
  · refine qc_iload_n (qc_at qkX11_about 5 rfl) rfl <| ?_
    refine qc_sw 3 (qc_at qkX11_about 6 rfl) rfl rfl (fun j2 hj2 h2 => ?_) (fun h2 => ?_)
    · rcases (show j2 = 0 ∨ j2 = 1 ∨ j2 = 2 by omega) with rfl | rfl | rfl
      · refine ⟨36, rfl, ?_⟩
        replace h2 := qc_i32 (c := (0)) h2 rfl
        refine qc_aload_n (qc_at qkX11_about 7 rfl) rfl <| qc_gR (qc_at qkX11_about 8 rfl) hn rfl (qfr_256_0 hR) rfl <| qc_iload_n (qc_at qkX11_about 9 rfl) rfl <| qc_cVv (ci := 1) (a0 := 257) (qc_at qkX11_about 10 rfl) ql_11_89 qfX1_laneOf (qc_kf hn rfl) rfl (sX1_laneOf _ _ _ _ _ hn hR hI _) rfl rfl (by decide) ⟨by decide, by decide⟩ ⟨by decide, by decide⟩ <| ?_
        refine qc_iret (qc_at qkX11_about 11 rfl) rfl (Nat.le_refl _) (Nat.le_refl _) ?_
        refine ⟨?_, rfl, rfl⟩
        first | (simp [qx_about, *]; done) | (unfold qx_about; rw [if_neg (by rw [h1]; decide), if_neg (fun e => by rw [e] at h2; revert h2; decide), if_neg (fun e => by rw [e] at h2; revert h2; decide), if_neg (fun e => by rw [e] at h2; revert h2; decide)])
      · refine ⟨45, rfl, ?_⟩
        replace h2 := qc_i32 (c := (1)) h2 rfl
        refine qc_aload_n (qc_at qkX11_about 12 rfl) rfl <| qc_gR (qc_at qkX11_about 13 rfl) hn rfl (qfr_256_0 hR) rfl <| qc_iload_n (qc_at qkX11_about 14 rfl) rfl <| qc_cVv (ci := 1) (a0 := 257) (qc_at qkX11_about 15 rfl) ql_11_97 qfX1_sizeOf (qc_kf hn rfl) rfl (sX1_sizeOf _ _ _ _ _ hn hR hI _) rfl rfl (by decide) ⟨by decide, by decide⟩ ⟨by decide, by decide⟩ <| ?_
        refine qc_iret (qc_at qkX11_about 16 rfl) rfl (Nat.le_refl _) (Nat.le_refl _) ?_
        refine ⟨?_, rfl, rfl⟩
        first | (simp [qx_about, *]; done) | (unfold qx_about; rw [if_neg (by rw [h1]; decide), if_neg (fun e => by rw [e] at h2; revert h2; decide), if_neg (fun e => by rw [e] at h2; revert h2; decide), if_neg (fun e => by rw [e] at h2; revert h2; decide)])
      · refine ⟨54, rfl, ?_⟩
        replace h2 := qc_i32 (c := (2)) h2 rfl
        refine qc_aload_n (qc_at qkX11_about 17 rfl) rfl <| qc_gR (qc_at qkX11_about 18 rfl) hn rfl (qfr_256_0 hR) rfl <| qc_iload_n (qc_at qkX11_about 19 rfl) rfl <| qc_cVv (ci := 1) (a0 := 257) (qc_at qkX11_about 20 rfl) ql_11_106 qfX1_leastLike (qc_kf hn rfl) rfl (sX1_leastLike _ _ _ _ _ hn hR _ h1) rfl rfl (by decide) ⟨by decide, by decide⟩ ⟨by decide, by decide⟩ <| ?_
        refine qc_iret (qc_at qkX11_about 21 rfl) rfl (Nat.le_refl _) (Nat.le_refl _) ?_
        refine ⟨?_, rfl, rfl⟩
        first | (simp [qx_about, *]; done) | (unfold qx_about; rw [if_neg (by rw [h1]; decide), if_neg (fun e => by rw [e] at h2; revert h2; decide), if_neg (fun e => by rw [e] at h2; revert h2; decide), if_neg (fun e => by rw [e] at h2; revert h2; decide)])
    · refine ⟨63, rfl, ?_⟩
      refine qc_bipush (qc_at qkX11_about 22 rfl) <| ?_
      refine qc_iret (qc_at qkX11_about 23 rfl) rfl (Nat.le_refl _) (Nat.le_refl _) ?_
      refine ⟨?_, rfl, rfl⟩
      first | (simp [qx_about, *]; done) | (unfold qx_about; rw [if_neg (by rw [h1]; decide), if_neg (fun e => by rw [e] at h2; revert h2; decide), if_neg (fun e => by rw [e] at h2; revert h2; decide), if_neg (fun e => by rw [e] at h2; revert h2; decide)])
  · refine qc_bipush (qc_at qkX11_about 3 rfl) <| ?_
    refine qc_iret (qc_at qkX11_about 4 rfl) rfl (Nat.le_refl _) (Nat.le_refl _) ?_
    refine ⟨?_, rfl, rfl⟩
    first | (simp [qx_about, *]; done) | (unfold qx_about; rw [if_neg (by rw [h1]; decide), if_neg (fun e => by rw [e] at h2; revert h2; decide), if_neg (fun e => by rw [e] at h2; revert h2; decide), if_neg (fun e => by rw [e] at h2; revert h2; decide)])
set_option maxRecDepth 100000 in
set_option maxHeartbeats 4000000 in
theorem sX11_end (w : qcW) (I : Nat → Nat → Int32) (L : Nat → Nat → Int64) (D : Nat → Nat → UInt64) (R : Nat → Nat → Nat) (hn : qcNF ≤ w.1) (hR : qc_FR R) (n : Nat) (hl : I 265 1 = nI n) (hb : n ≤ 400) (x : Int32) : qc_V 1 0 0 qmX11_end [.ref 256, .int x] w (I, L, D, R) (qc_eq (some (.int (cond (qc_inb x (n + 1)) 1 (-1)))) w (cond (qc_inb x (n + 1)) (qc_u I 265 1 x) I, L, D, R)) := by
  refine qc_V.of rfl rfl (Nat.le_of_ble_eq_true rfl) (lv := [(0, .ref 256), (1, .int x)]) rfl ?_
  refine qc_aload_n (qc_at qkX11_end 0 rfl) rfl <| qc_gR (qc_at qkX11_end 1 rfl) hn rfl (qfr_256_1 hR) rfl <| qc_iload_n (qc_at qkX11_end 2 rfl) rfl <| qc_cVv (ci := 8) (a0 := 265) (qc_at qkX11_end 3 rfl) ql_11_120 qfX10_cut (qc_kf hn rfl) rfl (sX10_cut _ _ _ _ _ hn hR _ hl hb _) rfl rfl (by decide) ⟨by decide, by decide⟩ ⟨by decide, by decide⟩ <| ?_
  refine qc_ifB_eq (qc_at qkX11_end 4 rfl) (fun h1 => ?_) (fun h1 => ?_)
  · refine qc_iconst (qc_at qkX11_end 7 rfl) <| ?_
    refine qc_iret (qc_at qkX11_end 8 rfl) rfl (Nat.le_refl _) (Nat.le_refl _) ?_
    rw [h1]
    exact ⟨rfl, rfl, rfl⟩
  · refine qc_iconst (qc_at qkX11_end 5 rfl) <| qc_goto (qc_at qkX11_end 6 rfl) <| ?_
    refine qc_iret (qc_at qkX11_end 8 rfl) rfl (Nat.le_refl _) (Nat.le_refl _) ?_
    rw [h1]
    exact ⟨rfl, rfl, rfl⟩
set_option maxRecDepth 100000 in
set_option maxHeartbeats 4000000 in
theorem sX11_count (w : qcW) (I : Nat → Nat → Int32) (L : Nat → Nat → Int64) (D : Nat → Nat → UInt64) (R : Nat → Nat → Nat) (hn : qcNF ≤ w.1) (hR : qc_FR R) (t : Int32) : qc_V 1 0 0 qmX11_count [.ref 256, .int t] w (I, L, D, R) (qc_eq (some (.int (if t = 0 then I 256 7 else if t = 1 then nI (qc_cnt (qx_has I 258) 10) else if t = 2 then I 256 6 else if t = 3 then I 265 1 else -1))) w (I, L, D, R)) := by
  refine qc_V.of rfl rfl (Nat.le_of_ble_eq_true rfl) (lv := [(0, .ref 256), (1, .int t)]) rfl ?_
  refine qc_iload_n (qc_at qkX11_count 0 rfl) rfl <| ?_
  refine qc_sw 4 (qc_at qkX11_count 1 rfl) rfl rfl (fun j1 hj1 h1 => ?_) (fun h1 => ?_)
  · rcases (show j1 = 0 ∨ j1 = 1 ∨ j1 = 2 ∨ j1 = 3 by omega) with rfl | rfl | rfl | rfl
    · refine ⟨32, rfl, ?_⟩
      replace h1 := qc_i32 (c := (0)) h1 rfl
      refine qc_aload_n (qc_at qkX11_count 2 rfl) rfl <| qc_gI (qc_at qkX11_count 3 rfl) hn rfl <| ?_
      refine qc_iret (qc_at qkX11_count 4 rfl) rfl (Nat.le_refl _) (Nat.le_refl _) ?_
      refine ⟨?_, rfl, rfl⟩
      first | (simp [*]; done) | (rw [if_neg (fun e => by rw [e] at h1; revert h1; decide), if_neg (fun e => by rw [e] at h1; revert h1; decide), if_neg (fun e => by rw [e] at h1; revert h1; decide), if_neg (fun e => by rw [e] at h1; revert h1; decide)])
    · refine ⟨37, rfl, ?_⟩
      replace h1 := qc_i32 (c := (1)) h1 rfl
      refine qc_aload_n (qc_at qkX11_count 5 rfl) rfl <| qc_gR (qc_at qkX11_count 6 rfl) hn rfl (qfr_256_0 hR) rfl <| qc_cVv (ci := 1) (a0 := 257) (qc_at qkX11_count 7 rfl) ql_11_198 qfX1_present (qc_kf hn rfl) rfl (sX1_present _ _ _ _ _ hn hR) rfl rfl (by decide) ⟨by decide, by decide⟩ ⟨by decide, by decide⟩ <| ?_
      refine qc_iret (qc_at qkX11_count 8 rfl) rfl (Nat.le_refl _) (Nat.le_refl _) ?_
      refine ⟨?_, rfl, rfl⟩
      first | (simp [*]; done) | (rw [if_neg (fun e => by rw [e] at h1; revert h1; decide), if_neg (fun e => by rw [e] at h1; revert h1; decide), if_neg (fun e => by rw [e] at h1; revert h1; decide), if_neg (fun e => by rw [e] at h1; revert h1; decide)])
    · refine ⟨45, rfl, ?_⟩
      replace h1 := qc_i32 (c := (2)) h1 rfl
      refine qc_aload_n (qc_at qkX11_count 9 rfl) rfl <| qc_gI (qc_at qkX11_count 10 rfl) hn rfl <| ?_
      refine qc_iret (qc_at qkX11_count 11 rfl) rfl (Nat.le_refl _) (Nat.le_refl _) ?_
      refine ⟨?_, rfl, rfl⟩
      first | (simp [*]; done) | (rw [if_neg (fun e => by rw [e] at h1; revert h1; decide), if_neg (fun e => by rw [e] at h1; revert h1; decide), if_neg (fun e => by rw [e] at h1; revert h1; decide), if_neg (fun e => by rw [e] at h1; revert h1; decide)])
    · refine ⟨50, rfl, ?_⟩
      replace h1 := qc_i32 (c := (3)) h1 rfl
      refine qc_aload_n (qc_at qkX11_count 12 rfl) rfl <| qc_gR (qc_at qkX11_count 13 rfl) hn rfl (qfr_256_1 hR) rfl <| qc_gI (qc_at qkX11_count 14 rfl) hn rfl <| ?_
      refine qc_iret (qc_at qkX11_count 15 rfl) rfl (Nat.le_refl _) (Nat.le_refl _) ?_
      refine ⟨?_, rfl, rfl⟩
      first | (simp [*]; done) | (rw [if_neg (fun e => by rw [e] at h1; revert h1; decide), if_neg (fun e => by rw [e] at h1; revert h1; decide), if_neg (fun e => by rw [e] at h1; revert h1; decide), if_neg (fun e => by rw [e] at h1; revert h1; decide)])
  · refine ⟨58, rfl, ?_⟩
    refine qc_iconst (qc_at qkX11_count 16 rfl) <| ?_
    refine qc_iret (qc_at qkX11_count 17 rfl) rfl (Nat.le_refl _) (Nat.le_refl _) ?_
    refine ⟨?_, rfl, rfl⟩
    first | (simp [*]; done) | (rw [if_neg (fun e => by rw [e] at h1; revert h1; decide), if_neg (fun e => by rw [e] at h1; revert h1; decide), if_neg (fun e => by rw [e] at h1; revert h1; decide), if_neg (fun e => by rw [e] at h1; revert h1; decide)])
set_option maxRecDepth 100000 in
set_option maxHeartbeats 4000000 in
theorem sX11_told (w : qcW) (I : Nat → Nat → Int32) (L : Nat → Nat → Int64) (D : Nat → Nat → UInt64) (R : Nat → Nat → Nat) (hn : qcNF ≤ w.1) (hR : qc_FR R) (t : Int32) : qc_V 0 0 0 qmX11_told [.ref 256, .int t] w (I, L, D, R) (qc_eq (some (.int (if t = 0 then I 280 1 else if t = 1 then I 280 2 else if t = 2 then I 280 3 else if t = 3 then I 280 4 else if t = 4 then I 280 5 else if t = 5 then I 280 0 else -2))) w (I, L, D, R)) := by
  refine qc_V.of rfl rfl (Nat.le_of_ble_eq_true rfl) (lv := [(0, .ref 256), (1, .int t)]) rfl ?_
  refine qc_iload_n (qc_at qkX11_told 0 rfl) rfl <| ?_
  refine qc_sw 6 (qc_at qkX11_told 1 rfl) rfl rfl (fun j1 hj1 h1 => ?_) (fun h1 => ?_)
  · rcases (show j1 = 0 ∨ j1 = 1 ∨ j1 = 2 ∨ j1 = 3 ∨ j1 = 4 ∨ j1 = 5 by omega) with rfl | rfl | rfl | rfl | rfl | rfl
    · refine ⟨40, rfl, ?_⟩
      replace h1 := qc_i32 (c := (0)) h1 rfl
      refine qc_aload_n (qc_at qkX11_told 2 rfl) rfl <| qc_gR (qc_at qkX11_told 3 rfl) hn rfl (qfr_256_3 hR) rfl <| qc_gI (qc_at qkX11_told 4 rfl) hn rfl <| ?_
      refine qc_iret (qc_at qkX11_told 5 rfl) rfl (Nat.le_refl _) (Nat.le_refl _) ?_
      refine ⟨?_, rfl, rfl⟩
      first | (simp [*]; done) | (rw [if_neg (fun e => by rw [e] at h1; revert h1; decide), if_neg (fun e => by rw [e] at h1; revert h1; decide), if_neg (fun e => by rw [e] at h1; revert h1; decide), if_neg (fun e => by rw [e] at h1; revert h1; decide), if_neg (fun e => by rw [e] at h1; revert h1; decide), if_neg (fun e => by rw [e] at h1; revert h1; decide)])
    · refine ⟨48, rfl, ?_⟩
      replace h1 := qc_i32 (c := (1)) h1 rfl
      refine qc_aload_n (qc_at qkX11_told 6 rfl) rfl <| qc_gR (qc_at qkX11_told 7 rfl) hn rfl (qfr_256_3 hR) rfl <| qc_gI (qc_at qkX11_told 8 rfl) hn rfl <| ?_
      refine qc_iret (qc_at qkX11_told 9 rfl) rfl (Nat.le_refl _) (Nat.le_refl _) ?_
      refine ⟨?_, rfl, rfl⟩
      first | (simp [*]; done) | (rw [if_neg (fun e => by rw [e] at h1; revert h1; decide), if_neg (fun e => by rw [e] at h1; revert h1; decide), if_neg (fun e => by rw [e] at h1; revert h1; decide), if_neg (fun e => by rw [e] at h1; revert h1; decide), if_neg (fun e => by rw [e] at h1; revert h1; decide), if_neg (fun e => by rw [e] at h1; revert h1; decide)])
    · refine ⟨56, rfl, ?_⟩
      replace h1 := qc_i32 (c := (2)) h1 rfl
      refine qc_aload_n (qc_at qkX11_told 10 rfl) rfl <| qc_gR (qc_at qkX11_told 11 rfl) hn rfl (qfr_256_3 hR) rfl <| qc_gI (qc_at qkX11_told 12 rfl) hn rfl <| ?_
      refine qc_iret (qc_at qkX11_told 13 rfl) rfl (Nat.le_refl _) (Nat.le_refl _) ?_
      refine ⟨?_, rfl, rfl⟩
      first | (simp [*]; done) | (rw [if_neg (fun e => by rw [e] at h1; revert h1; decide), if_neg (fun e => by rw [e] at h1; revert h1; decide), if_neg (fun e => by rw [e] at h1; revert h1; decide), if_neg (fun e => by rw [e] at h1; revert h1; decide), if_neg (fun e => by rw [e] at h1; revert h1; decide), if_neg (fun e => by rw [e] at h1; revert h1; decide)])
    · refine ⟨64, rfl, ?_⟩
      replace h1 := qc_i32 (c := (3)) h1 rfl
      refine qc_aload_n (qc_at qkX11_told 14 rfl) rfl <| qc_gR (qc_at qkX11_told 15 rfl) hn rfl (qfr_256_3 hR) rfl <| qc_gI (qc_at qkX11_told 16 rfl) hn rfl <| ?_
      refine qc_iret (qc_at qkX11_told 17 rfl) rfl (Nat.le_refl _) (Nat.le_refl _) ?_
      refine ⟨?_, rfl, rfl⟩
      first | (simp [*]; done) | (rw [if_neg (fun e => by rw [e] at h1; revert h1; decide), if_neg (fun e => by rw [e] at h1; revert h1; decide), if_neg (fun e => by rw [e] at h1; revert h1; decide), if_neg (fun e => by rw [e] at h1; revert h1; decide), if_neg (fun e => by rw [e] at h1; revert h1; decide), if_neg (fun e => by rw [e] at h1; revert h1; decide)])
    · refine ⟨72, rfl, ?_⟩
      replace h1 := qc_i32 (c := (4)) h1 rfl
      refine qc_aload_n (qc_at qkX11_told 18 rfl) rfl <| qc_gR (qc_at qkX11_told 19 rfl) hn rfl (qfr_256_3 hR) rfl <| qc_gI (qc_at qkX11_told 20 rfl) hn rfl <| ?_
      refine qc_iret (qc_at qkX11_told 21 rfl) rfl (Nat.le_refl _) (Nat.le_refl _) ?_
      refine ⟨?_, rfl, rfl⟩
      first | (simp [*]; done) | (rw [if_neg (fun e => by rw [e] at h1; revert h1; decide), if_neg (fun e => by rw [e] at h1; revert h1; decide), if_neg (fun e => by rw [e] at h1; revert h1; decide), if_neg (fun e => by rw [e] at h1; revert h1; decide), if_neg (fun e => by rw [e] at h1; revert h1; decide), if_neg (fun e => by rw [e] at h1; revert h1; decide)])
    · refine ⟨80, rfl, ?_⟩
      replace h1 := qc_i32 (c := (5)) h1 rfl
      refine qc_aload_n (qc_at qkX11_told 22 rfl) rfl <| qc_gR (qc_at qkX11_told 23 rfl) hn rfl (qfr_256_3 hR) rfl <| qc_gI (qc_at qkX11_told 24 rfl) hn rfl <| ?_
      refine qc_iret (qc_at qkX11_told 25 rfl) rfl (Nat.le_refl _) (Nat.le_refl _) ?_
      refine ⟨?_, rfl, rfl⟩
      first | (simp [*]; done) | (rw [if_neg (fun e => by rw [e] at h1; revert h1; decide), if_neg (fun e => by rw [e] at h1; revert h1; decide), if_neg (fun e => by rw [e] at h1; revert h1; decide), if_neg (fun e => by rw [e] at h1; revert h1; decide), if_neg (fun e => by rw [e] at h1; revert h1; decide), if_neg (fun e => by rw [e] at h1; revert h1; decide)])
  · refine ⟨88, rfl, ?_⟩
    refine qc_bipush (qc_at qkX11_told 26 rfl) <| ?_
    refine qc_iret (qc_at qkX11_told 27 rfl) rfl (Nat.le_refl _) (Nat.le_refl _) ?_
    refine ⟨?_, rfl, rfl⟩
    first | (simp [*]; done) | (rw [if_neg (fun e => by rw [e] at h1; revert h1; decide), if_neg (fun e => by rw [e] at h1; revert h1; decide), if_neg (fun e => by rw [e] at h1; revert h1; decide), if_neg (fun e => by rw [e] at h1; revert h1; decide), if_neg (fun e => by rw [e] at h1; revert h1; decide), if_neg (fun e => by rw [e] at h1; revert h1; decide)])
