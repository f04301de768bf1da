/-! the constructor of a query -/
section
variable {R0 : Room} {QQ : qcQ} {cu su : Nat} {w : qcW} {I : qTI} {L : qTL} {D : qTD} {R : qTR} {N j c t s n : Nat}
/-! one round of the loop over starts, over parts -/
set_option maxRecDepth 100000 in
set_option maxHeartbeats 4000000 in
theorem qz_it1 (hn : qcNF ≤ w.1) (hk : qc_ki w N 6) (ha : qc_ka w (N + 1) 100 4) (h338 : 338 ≤ N) (hR2 : R N 2 = N + 1) (hr : R 269 j = c) (hkc : qc_ki w c 0) (hj : j < 3) (ht : I (N + 1) j = nI t) (hs : I c 2 = nI s)
    (kk : qc_X R0 qmX7_init QQ cu su w (18, [(0, .ref N), (1, .ref 267), (2, .ref 269), (3, .int (nI (j + 1)))], [], qc_u I (N + 1) (j + 1) (nI (t + s)), L, D, R)) : qc_X R0 qmX7_init QQ cu su w (18, [(0, .ref N), (1, .ref 267), (2, .ref 269), (3, .int (nI j))], [], I, L, D, R) := by
  have e1 : nI j + 1 = nI (j + 1) := qi_s1 j
  have e2 : (nI (j + 1)).toNatClampNeg = j + 1 := nI_clamp (by omega)
  have e3 : (nI j).toNatClampNeg = j := nI_clamp (by omega)
  have b1 : Nat.beq (N + 1) 255 = false := qc_beqF (by omega)
  have b2 : Nat.beq c 255 = false := qc_beqF (by have := hkc.2.1; omega)
  refine qc_iload_n (qc_at qkX7_init 11 rfl) rfl <| qc_iconst (qc_at qkX7_init 12 rfl) <| ?_
  refine qc_icmp_ge (qc_at qkX7_init 13 rfl) (fun h1 => absurd ((qi_le (a := 3) (by decide) (by omega)).mp h1) (by omega)) (fun h1 => ?_)
  refine qc_aload_n (qc_at qkX7_init 14 rfl) rfl <| qc_gRd (qc_at qkX7_init 15 rfl) hk rfl hR2 b1 <| qc_iload_n (qc_at qkX7_init 16 rfl) rfl <| qc_iconst (qc_at qkX7_init 17 rfl) <| qc_iadd (qc_at qkX7_init 18 rfl) <| ?_
  refine qc_aload_n (qc_at qkX7_init 19 rfl) rfl <| qc_gRd (qc_at qkX7_init 20 rfl) hk rfl hR2 b1 <| qc_iload_n (qc_at qkX7_init 21 rfl) rfl <| qc_ialdd (qc_at qkX7_init 22 rfl) ha (qz_in (by omega) (by decide)) <| ?_
  refine qc_aload_n (qc_at qkX7_init 23 rfl) rfl <| qc_iload_n (qc_at qkX7_init 24 rfl) rfl <| qc_aald 0 (Or.inl rfl) (b := c) (n := 3) (qc_at qkX7_init 25 rfl) (qc_kfa hn rfl) (qz_in (by omega) (by decide)) (by rw [e3]; exact hr) b2 <| qc_gId (qc_at qkX7_init 26 rfl) hkc rfl <| qc_iadd (qc_at qkX7_init 27 rfl) <| ?_
  rw [show nI j + 1 = nI (j + 1) from e1, e3, ht, hs, nI_add]
  refine qc_iastd (qc_at qkX7_init 28 rfl) ha (qz_in (by omega) (by decide)) <| ?_
  refine qc_iinc (lv' := [(3, _), (0, _), (1, _), (2, _)]) (qc_at qkX7_init 29 rfl) rfl rfl rfl <| qc_goto (qc_at qkX7_init 30 rfl) <| ?_
  refine qc_sub [1, 2, 3, 0] rfl ?_
  rw [show nI j + 1 = nI (j + 1) from e1, e2]
  exact kk
set_option maxRecDepth 100000 in
set_option maxHeartbeats 4000000 in
theorem qz_it2 (hn : qcNF ≤ w.1) (hk : qc_ki w N 6) (ha : qc_ka w (N + 1) 100 4) (ho : qc_ka w (N + 2) 100 n) (hm : qc_ka w (N + 3) 100 n) (h338 : 338 ≤ N) (hR2 : R N 2 = N + 1) (hR0 : R N 0 = N + 2) (hR1 : R N 1 = N + 3) (hr : R 269 j = c) (hkc : qc_ki w c 0) (hc : c = 270 ∨ c = 273 ∨ c = 276) (hc0 : R c 0 = c + 1) (hc1 : R c 1 = c + 2) (hj : j < 3) (ht : I (N + 1) j = nI t) (hs : I c 2 = nI s) (hts : t + s ≤ n) (hs2 : s ≤ 200) (hn2 : n ≤ 600) (hf : 1 ≤ R0.frames ∧ 40 ≤ R0.locals)
    (kk : qc_X R0 qmX7_init QQ cu su w (76, [(0, .ref N), (1, .ref 267), (2, .ref 269), (3, .int (nI (j + 1)))], [], qj_cp (qj_cp I (c + 1) (N + 2) 0 t s) (c + 2) (N + 3) 0 t s, L, D, R)) : qc_X R0 qmX7_init QQ cu su w (76, [(0, .ref N), (1, .ref 267), (2, .ref 269), (3, .int (nI j))], [], I, L, D, R) := by
  have e1 : nI j + 1 = nI (j + 1) := qi_s1 j
  have e3 : (nI j).toNatClampNeg = j := nI_clamp (by omega)
  have et : (nI t).toNatClampNeg = t := nI_clamp (by omega)
  have es : (nI s).toNatClampNeg = s := nI_clamp (by omega)
  have b1 : Nat.beq (N + 1) 255 = false := qc_beqF (by omega)
  have b2 : Nat.beq c 255 = false := qc_beqF (by omega)
  have b3 : Nat.beq (N + 2) 255 = false := qc_beqF (by omega)
  have b4 : Nat.beq (N + 3) 255 = false := qc_beqF (by omega)
  have b5 : Nat.beq (c + 1) 255 = false := qc_beqF (by omega)
  have b6 : Nat.beq (c + 2) 255 = false := qc_beqF (by omega)
  have k1 : qc_ka w (c + 1) 100 200 := by rcases hc with rfl | rfl | rfl <;> exact qc_kfa hn rfl
  have k2 : qc_ka w (c + 2) 100 200 := by rcases hc with rfl | rfl | rfl <;> exact qc_kfa hn rfl
  have i1 : qj_cp I (c + 1) (N + 2) 0 t s c 2 = nI s := by rw [qj_cp_off _ _ _ _ (by omega)]; exact hs
  have i2 : qj_cp I (c + 1) (N + 2) 0 t s (N + 1) j = nI t := by rw [qj_cp_off _ _ _ _ (by omega)]; exact ht
  refine qc_iload_n (qc_at qkX7_init 47 rfl) rfl <| qc_iconst (qc_at qkX7_init 48 rfl) <| ?_
  refine qc_icmp_ge (qc_at qkX7_init 49 rfl) (fun h1 => absurd ((qi_le (a := 3) (by decide) (by omega)).mp h1) (by omega)) (fun h1 => ?_)
  refine qc_aload_n (qc_at qkX7_init 50 rfl) rfl <| qc_iload_n (qc_at qkX7_init 51 rfl) rfl <| qc_aald 0 (Or.inl rfl) (b := c) (n := 3) (qc_at qkX7_init 52 rfl) (qc_kfa hn rfl) (qz_in (by omega) (by decide)) (by rw [e3]; exact hr) b2 <| qc_gRd (qc_at qkX7_init 53 rfl) hkc rfl hc0 b5 <| qc_iconst (qc_at qkX7_init 54 rfl) <| ?_
  refine qc_aload_n (qc_at qkX7_init 55 rfl) rfl <| qc_gRd (qc_at qkX7_init 56 rfl) hk rfl hR0 b3 <| qc_aload_n (qc_at qkX7_init 57 rfl) rfl <| qc_gRd (qc_at qkX7_init 58 rfl) hk rfl hR2 b1 <| qc_iload_n (qc_at qkX7_init 59 rfl) rfl <| qc_ialdd (qc_at qkX7_init 60 rfl) ha (qz_in (by omega) (by decide)) <| ?_
  refine qc_aload_n (qc_at qkX7_init 61 rfl) rfl <| qc_iload_n (qc_at qkX7_init 62 rfl) rfl <| qc_aald 0 (Or.inl rfl) (b := c) (n := 3) (qc_at qkX7_init 63 rfl) (qc_kfa hn rfl) (qz_in (by omega) (by decide)) (by rw [e3]; exact hr) b2 <| qc_gId (qc_at qkX7_init 64 rfl) hkc rfl <| ?_
  rw [e3, ht, hs]
  refine (qd_cpi (s := fun _ => true) (M' := (qj_cp I (c + 1) (N + 2) 0 t s, L, D, R)) (sp := nI 0) (dp := nI t) (n := nI s) (qc_at qkX7_init 65 rfl) qj_acL7_34 k1 ho (qj_ok (by omega) (by omega) (by decide) (by omega)) (Nat.le_of_ble_eq_true rfl) hf rfl ⟨?_, ?_⟩).2
  · rw [et, es]
    exact qc_fm.rf _
  rw [et, es]
  refine qc_aload_n (qc_at qkX7_init 66 rfl) rfl <| qc_iload_n (qc_at qkX7_init 67 rfl) rfl <| qc_aald 0 (Or.inl rfl) (b := c) (n := 3) (qc_at qkX7_init 68 rfl) (qc_kfa hn rfl) (qz_in (by omega) (by decide)) (by rw [e3]; exact hr) b2 <| qc_gRd (qc_at qkX7_init 69 rfl) hkc rfl hc1 b6 <| qc_iconst (qc_at qkX7_init 70 rfl) <| ?_
  refine qc_aload_n (qc_at qkX7_init 71 rfl) rfl <| qc_gRd (qc_at qkX7_init 72 rfl) hk rfl hR1 b4 <| qc_aload_n (qc_at qkX7_init 73 rfl) rfl <| qc_gRd (qc_at qkX7_init 74 rfl) hk rfl hR2 b1 <| qc_iload_n (qc_at qkX7_init 75 rfl) rfl <| qc_ialdd (qc_at qkX7_init 76 rfl) ha (qz_in (by omega) (by decide)) <| ?_
  refine qc_aload_n (qc_at qkX7_init 77 rfl) rfl <| qc_iload_n (qc_at qkX7_init 78 rfl) rfl <| qc_aald 0 (Or.inl rfl) (b := c) (n := 3) (qc_at qkX7_init 79 rfl) (qc_kfa hn rfl) (qz_in (by omega) (by decide)) (by rw [e3]; exact hr) b2 <| qc_gId (qc_at qkX7_init 80 rfl) hkc rfl <| ?_
  rw [e3]
  rw [show qj_cp I (c + 1) (N + 2) (nI 0).toNatClampNeg t s = qj_cp I (c + 1) (N + 2) 0 t s from rfl, i1, i2]
  refine (qd_cpi (s := fun _ => true) (M' := (qj_cp (qj_cp I (c + 1) (N + 2) 0 t s) (c + 2) (N + 3) 0 t s, L, D, R)) (sp := nI 0) (dp := nI t) (n := nI s) (qc_at qkX7_init 81 rfl) qj_acL7_34 k2 hm (qj_ok (by omega) (by omega) (by decide) (by omega)) (Nat.le_of_ble_eq_true rfl) hf rfl ⟨?_, ?_⟩).2
  · rw [et, es]
    exact qc_fm.rf _
  rw [et, es]
  refine qc_iinc (lv' := [(3, _), (0, _), (1, _), (2, _)]) (qc_at qkX7_init 82 rfl) rfl rfl rfl <| qc_goto (qc_at qkX7_init 83 rfl) <| ?_
  refine qc_sub [1, 2, 3, 0] rfl ?_
  rw [show nI j + 1 = nI (j + 1) from e1]
  exact kk
end
