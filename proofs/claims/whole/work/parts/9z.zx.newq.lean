/-! a new query: contracts by hand -/
section
variable {w : qcW} {a ci kd n k l : Nat}
theorem qz_ki (h : qc_ki w a ci) : qc_ki (qc_wn w k l) a ci := by
  obtain ⟨h1, h2, h3, h4⟩ := h
  refine ⟨h1, h2, by show a < w.1 + 1; omega, ?_⟩
  show va_up w.2.1 w.1 k a = ci ∨ _
  unfold va_up
  rw [if_neg (by omega)]
  exact h4
theorem qz_ka (h : qc_ka w a kd n) : qc_ka (qc_wn w k l) a kd n := by
  obtain ⟨h1, h2, h3⟩ := h
  refine ⟨h1, by show a < w.1 + 1; omega, ?_⟩
  show (va_up w.2.1 w.1 k a = kd ∧ va_up w.2.2 w.1 l a = n) ∨ _
  unfold va_up
  rw [if_neg (by omega), if_neg (by omega)]
  exact h3
theorem qz_kiN (h : 256 ≤ w.1) (hk : k < 11) : qc_ki (qc_wn w k l) w.1 k := ⟨hk, h, by show w.1 < w.1 + 1; omega, Or.inl (by show va_up w.2.1 w.1 k w.1 = k; unfold va_up; rw [if_pos rfl])⟩
theorem qz_kaN (h : 256 ≤ w.1) : qc_ka (qc_wn w k l) w.1 k l := ⟨h, by show w.1 < w.1 + 1; omega, Or.inl ⟨by show va_up w.2.1 w.1 k w.1 = k; unfold va_up; rw [if_pos rfl], by show va_up w.2.2 w.1 l w.1 = l; unfold va_up; rw [if_pos rfl]⟩⟩
theorem qz_n (h : qcNF ≤ w.1) : qcNF ≤ (qc_wn w k l).1 := Nat.le_succ_of_le h
end
theorem qz_in {j n : Nat} (h : j < n) (hn : n < 2 ^ 31) : vp_in (nI j) n := qc_inb_in (qi_inbN h hn)
theorem qj_ok {sp dp n n0 n1 : Nat} (h0 : sp + n ≤ n0) (h1 : dp + n ≤ n1) (h2 : n0 < 2 ^ 31) (h3 : n1 < 2 ^ 31) : qj_cok (nI sp) (nI dp) (nI n) n0 n1 = true := by
  have e1 : ¬ nI sp < 0 := nI_pos (by omega)
  have e2 : ¬ nI dp < 0 := nI_pos (by omega)
  have e3 : ¬ nI n < 0 := nI_pos (by omega)
  unfold qj_cok
  rw [nI_clamp (by omega), nI_clamp (by omega), nI_clamp (by omega)]
  simp only [e1, e2, e3, not_false_eq_true, decide_true, Bool.true_and, Bool.and_eq_true, Nat.ble_eq]
  exact ⟨h0, h1⟩
section
variable {w : qcW} {I : qTI} {L : qTL} {D : qTD} {R : qTR}
set_option maxRecDepth 100000 in
set_option maxHeartbeats 4000000 in
theorem qz_copyOf (hn : qcNF ≤ w.1) (hR : qc_FR R) {nr : Nat} (h : nr < 100) : qc_V 1 1 nr qmJ7_copyOf_65012 [.ref 279, .int (nI nr)] w (I, L, D, R) (qc_eq (some (.ref w.1)) (qc_wn w 102 nr) (I, L, qj_cp (qc_z D w.1 0) 279 w.1 0 0 nr, R)) := by
  have hNF : qcNF = 338 := rfl
  have hmin : fJ9_min_7cf53 (qc_wn w 102 nr) I L (qc_z D w.1 0) R (nI 100) (nI nr) = some (nI nr, I, L, qc_z D w.1 0, R) := by
    unfold fJ9_min_7cf53
    rw [if_pos ((qi_lt (by omega) (by decide)).mpr h)]
  have cmin := (tJ9_min_7cf53 (sd := fun _ => true) (qz_n hn) hR hmin).2
  have k0 : qc_ka (qc_wn w 102 nr) 279 102 100 := qz_ka (qc_kfa hn rfl)
  refine qc_V.ofF (by decide +kernel) rfl (Nat.le_of_ble_eq_true rfl) (lv := [(0, .ref 279), (1, .int (nI nr))]) rfl ?_
  refine qc_iload_n (qc_at qkJ7_copyOf_65012 0 rfl) rfl <| qc_aload_n (qc_at qkJ7_copyOf_65012 1 rfl) rfl <| qc_alen 102 (Or.inr (Or.inr rfl)) (n := 100) (qc_at qkJ7_copyOf_65012 2 rfl) (qc_kfa hn rfl) <| ?_
  refine qc_icmp_ne (qc_at qkJ7_copyOf_65012 3 rfl) (fun h1 => ?_) (fun h1 => absurd (qi_nI_inj (by omega) (by decide) h1) (by omega))
  refine qc_iload_n (qc_at qkJ7_copyOf_65012 8 rfl) rfl <| qc_newD nr (qc_at qkJ7_copyOf_65012 9 rfl) rfl (by omega) (fun hf => absurd hf (by omega)) (Nat.le_of_ble_eq_true rfl) (by show 0 + nr ≤ nr; omega) <| qc_astore_n (lv' := [(2, _), (0, _), (1, _)]) (qc_at qkJ7_copyOf_65012 10 rfl) rfl rfl <| ?_
  refine qc_aload_n (qc_at qkJ7_copyOf_65012 11 rfl) rfl <| qc_iconst (qc_at qkJ7_copyOf_65012 12 rfl) <| qc_aload_n (qc_at qkJ7_copyOf_65012 13 rfl) rfl <| qc_iconst (qc_at qkJ7_copyOf_65012 14 rfl) <| qc_aload_n (qc_at qkJ7_copyOf_65012 15 rfl) rfl <| qc_alen 102 (Or.inr (Or.inr rfl)) (n := 100) (qc_at qkJ7_copyOf_65012 16 rfl) k0 <| qc_iload_n (qc_at qkJ7_copyOf_65012 17 rfl) rfl <| ?_
  refine qc_cSv (qc_at qkJ7_copyOf_65012 18 rfl) ql_17_304 qfJ9_min_7cf53 cmin rfl rfl (Nat.le_of_ble_eq_true rfl) ⟨Nat.le_of_ble_eq_true rfl, Nat.le_of_ble_eq_true rfl⟩ ⟨Nat.le_of_ble_eq_true rfl, by show 0 + nr ≤ nr; omega⟩ ?_
  have e0 : (nI nr).toNatClampNeg = nr := nI_clamp (by omega)
  refine (qd_cpd (s := fun _ => true) (M' := (I, L, qj_cp (qc_z D w.1 0) 279 w.1 0 0 nr, R)) (sp := nI 0) (dp := nI 0) (qc_at qkJ7_copyOf_65012 19 rfl) qj_acL17_150 k0 (qz_kaN (by omega)) (qj_ok (by omega) (by omega) (by decide) (by omega)) (Nat.le_of_ble_eq_true rfl) ⟨Nat.le_of_ble_eq_true rfl, Nat.le_of_ble_eq_true rfl⟩ rfl ⟨?_, ?_⟩).2
  · rw [e0]
    exact qc_fm.rf _
  · rw [e0]
    exact qc_aload_n (qc_at qkJ7_copyOf_65012 20 rfl) rfl <| qc_aret (qc_at qkJ7_copyOf_65012 21 rfl) rfl (Or.inr ⟨_, rfl⟩) (Or.inr ⟨_, rfl⟩) (Nat.le_of_ble_eq_true rfl) (by show 0 + nr ≤ nr; omega) (qc_eq.rf _ _ _)
end
