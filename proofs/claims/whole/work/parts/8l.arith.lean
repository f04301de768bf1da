/-! sums of whole numbers and of reals, of both -/
def qp_ar (g : Int32) (x y : Int64) : Int64 := if g = 1 then x + y else if g = 2 then x - y else if g = 3 then x * y else if g = 4 then x / y else x - x / y * y
def qp_nw (k : Int32) (v : Int64) : Int64 := if k = 1 then Int32.toInt64 (Int64.toInt32 v) else v
section
variable {w : qcW} {I : qTI} {L : qTL} {D : qTD} {R : qTR} {p : Nat → Int64} {x : Nat → UInt64} {n : Nat} {g k : Int32}
theorem qi_nz {y : Int64} (h : ¬ y = 0) : qc_nz y = true := by
  unfold qc_nz
  rw [decide_eq_false h]
  rfl
theorem cx_jw (hn : n + 2 ≤ 24) (hg : g = 1 ∨ g = 2 ∨ g = 3 ∨ g = 4 ∨ g = 5) : fX4_joinWholes w (qc_u I 287 2 (nI (n + 2))) (qi_rr L 288 p) D R g k = if 4 ≤ g ∧ p (n + 1) = 0 then some (4, qc_u I 287 2 (nI n), qi_rr L 288 p, D, R) else some (0, qc_u I 287 2 (nI (n + 1)), qi_rr L 288 (qi_up p n (qp_nw k (qp_ar g (p n) (p (n + 1))))), D, R) := by
  have fin : ∀ v, fX4_joinWholes_b102 w (qc_u I 287 2 (nI n)) (qi_rr L 288 p) D R k v = some (0, qc_u I 287 2 (nI (n + 1)), qi_rr L 288 (qi_up p n (qp_nw k v)), D, R) := by
    intro v
    unfold fX4_joinWholes_b102 fX4_joinWholes_b120 qp_nw
    split
    · rw [cx_lay (by omega), qc_bds]
    · rw [cx_lay (by omega), qc_bds]
  unfold fX4_joinWholes
  rw [cx_take (n := n + 1) (by omega), qc_bds, cx_take (by omega), qc_bds]
  unfold fX4_joinWholes_b30 qp_ar
  simp only [lg_cmp_eq, fin]
  rcases hg with rfl | rfl | rfl | rfl | rfl
  · rfl
  · rfl
  · rfl
  · by_cases h0 : p (n + 1) = 0
    · rw [if_neg (show ¬ (4 : Int32) < 4 by decide), if_pos h0, if_pos ⟨by decide, h0⟩]
    · rw [if_neg (show ¬ (4 : Int32) < 4 by decide), if_neg h0, if_neg (show ¬ ((4 : Int32) ≤ 4 ∧ p (n + 1) = 0) from fun q => h0 q.2), qi_nz h0]
      rfl
  · by_cases h0 : p (n + 1) = 0
    · rw [if_neg (show ¬ (5 : Int32) < 4 by decide), if_pos h0, if_pos ⟨by decide, h0⟩]
    · rw [if_neg (show ¬ (5 : Int32) < 4 by decide), if_neg h0, if_neg (show ¬ ((4 : Int32) ≤ 5 ∧ p (n + 1) = 0) from fun q => h0 q.2), qi_nz h0]
      rfl
theorem mx_rk (g : Int32) (y z : Int64) (hg : g = 1 ∨ g = 2 ∨ g = 3 ∨ g = 4 ∨ g = 5) (h : ¬ (4 ≤ g ∧ z = 0)) : fX12_reckoned w I L D R g y z = some (qp_ar g y z, I, L, D, R) := by
  unfold fX12_reckoned qp_ar
  rcases hg with rfl | rfl | rfl | rfl | rfl
  · rfl
  · rfl
  · rfl
  · rw [qi_nz (fun q => h ⟨by decide, q⟩)]
    rfl
  · rw [qi_nz (fun q => h ⟨by decide, q⟩)]
    rfl
/-- the reference's pile -/
theorem mx_b (hn : n + 2 ≤ 24) : qc_inb (nI n) 32 = true ∧ qc_inb (nI (n + 1)) 32 = true ∧ (nI n).toNatClampNeg = n ∧ (nI (n + 1)).toNatClampNeg = n + 1 ∧ nI (n + 2) - 1 = nI (n + 1) ∧ nI (n + 1) - 1 = nI n :=
  ⟨qi_inbN (by omega) (by decide), qi_inbN (by omega) (by decide), nI_clamp (by omega), nI_clamp (by omega), qi_d1 (n + 1), qi_d1 n⟩
theorem mx_jw (hn : n + 2 ≤ 24) (hg : g = 1 ∨ g = 2 ∨ g = 3 ∨ g = 4 ∨ g = 5) (hk : k = 1 ∨ k = 2) : fX12_joins_ w (qc_u I 291 67 (nI (n + 2))) (qi_rr L 328 p) D R g k = if 4 ≤ g ∧ p (n + 1) = 0 then some ((), qc_u (qc_u I 291 67 (nI (n + 1))) 291 69 4, qi_rr L 328 p, D, R) else some ((), qc_u I 291 67 (nI (n + 1)), qi_rr L 328 (qi_up p n (qp_nw k (qp_ar g (p n) (p (n + 1))))), D, R) := by
  obtain ⟨b0, b1, c0, c1, d2, d1⟩ := mx_b hn
  have fin : ¬ (4 ≤ g ∧ p (n + 1) = 0) → fX12_joins__b61 w (qc_u I 291 67 (nI (n + 1))) (qi_rr L 328 p) D R g k (p n) (p (n + 1)) = some ((), qc_u I 291 67 (nI (n + 1)), qi_rr L 328 (qi_up p n (qp_nw k (qp_ar g (p n) (p (n + 1))))), D, R) := by
    intro h
    unfold fX12_joins__b61 qp_nw
    simp only [mx_rk g _ _ hg h, qc_bds, qc_u_at, d1, b0, qc_gdt, c0, qi_rr_u]
    split <;> rfl
  unfold fX12_joins_
  have hk3 : ¬ (3 : Int32) ≤ k := by rcases hk with rfl | rfl <;> decide
  simp only [hk3, if_false, qc_u_at, d2, d1, b0, b1, qc_gdt, c0, c1, qi_rr_on, qc_uu, lg_cmp_eq]
  by_cases h0 : p (n + 1) = 0
  · rw [if_pos h0]
    rcases hg with rfl | rfl | rfl | rfl | rfl
    · exact fin (fun q => absurd q.1 (by decide))
    · exact fin (fun q => absurd q.1 (by decide))
    · exact fin (fun q => absurd q.1 (by decide))
    · rw [if_pos (show (4 : Int32) = 4 from rfl), if_pos (show (4 : Int32) ≤ 4 ∧ p (n + 1) = 0 from ⟨by decide, h0⟩)]
    · rw [if_neg (show ¬ (5 : Int32) = 4 by decide), if_pos (show (5 : Int32) = 5 from rfl), if_pos (show (4 : Int32) ≤ 5 ∧ p (n + 1) = 0 from ⟨by decide, h0⟩)]
  · rw [if_neg h0, if_neg (fun q => h0 q.2)]
    exact fin (fun q => h0 q.2)
theorem cx_jr (hn : n + 2 ≤ 24) (h1 : qf_N (x n)) (h2 : qf_N (x (n + 1))) : fX4_joinReals w (qc_u I 287 2 (nI (n + 2))) L (qi_rr D 289 x) R g k = if qf_lost g (x n) (x (n + 1)) = true then some (5, qc_u I 287 2 (nI n), L, qi_rr D 289 x, R) else (if k = 3 then (qc_gd (qc_n32 (FP.d2f (x n))) <| qc_gd (qc_n32 (FP.d2f (x (n + 1)))) <| qc_bd (fX8_joinedFloats w (qc_u I 287 2 (nI n)) L (qi_rr D 289 x) R g (FP.d2f (x n)) (FP.d2f (x (n + 1)))) fun r10 I10 L10 D10 R10 => fX4_joinReals_b57 w I10 L10 D10 R10 r10) else (qc_bd (fX8_joined w (qc_u I 287 2 (nI n)) L (qi_rr D 289 x) R g (x n) (x (n + 1))) fun r7 I7 L7 D7 R7 => fX4_joinReals_b57 w I7 L7 D7 R7 r7)) := by
  unfold fX4_joinReals
  rw [cx_takeR (n := n + 1) (by omega), qc_bds, cx_takeR (by omega), qc_bds, fx_isLost g h1 h2, qc_bds]
theorem cx_b57 (hn : n + 2 ≤ 24) (v : UInt64) : fX4_joinReals_b57 w (qc_u I 287 2 (nI n)) L (qi_rr D 289 x) R v = some (0, qc_u I 287 2 (nI (n + 1)), L, qi_rr D 289 (qi_up x n v), R) := by
  unfold fX4_joinReals_b57
  rw [cx_layR (by omega), qc_bds]
theorem mx_jr (hn : n + 2 ≤ 24) (hk : k = 3 ∨ k = 4) (h1 : qf_N (x n)) (h2 : qf_N (x (n + 1))) : fX12_joins_ w (qc_u I 291 67 (nI (n + 2))) L (qi_rr D 329 x) R g k = if qf_lost g (x n) (x (n + 1)) = true then some ((), qc_u (qc_u I 291 67 (nI (n + 1))) 291 69 5, L, qi_rr D 329 x, R) else (if k = 3 then (qc_gd (qc_n32 (FP.d2f (x n))) <| qc_gd (qc_n32 (FP.d2f (x (n + 1)))) <| qc_bd (fX12_reckonedFloat w (qc_u I 291 67 (nI (n + 1))) L (qi_rr D 329 x) R g (FP.d2f (x n)) (FP.d2f (x (n + 1)))) fun r15 I15 L15 D15 R15 => some ((), I15, L15, (qc_u D15 329 n r15), R15)) else (qc_bd (fX12_reckonedReal w (qc_u I 291 67 (nI (n + 1))) L (qi_rr D 329 x) R g (x n) (x (n + 1))) fun r11 I11 L11 D11 R11 => some ((), I11, L11, (qc_u D11 329 n r11), R11))) := by
  obtain ⟨b0, b1, c0, c1, d2, d1⟩ := mx_b hn
  have hk3 : (3 : Int32) ≤ k := by rcases hk with rfl | rfl <;> decide
  unfold fX12_joins_
  simp only [hk3, if_true, qc_u_at, d2, d1, b0, b1, qc_gdt, c0, c1, qi_rr_on, qc_uu, fm_isNone g h1 h2, qc_bds]
end
section
variable {w : qcW} {Ic : qTI} {Lc : qTL} {Dc : qTD} {Rc : qTR} {Ir : qTI} {Lr : qTL} {Dr : qTD} {Rr : qTR} {a : Int32} {pc : Nat → Int64} {xc : Nat → UInt64} {pm : Nat → Int64} {xm : Nat → UInt64} {r : List Nat}
theorem qp_rgn {k : Nat} (hk : k = 1 ∨ k = 2) (v : Int64) : qp_rg k (qp_nw (nI k) v) := by
  rcases hk with rfl | rfl
  · refine ⟨fun q => by omega, fun _ => ?_⟩
    rw [show qp_nw (nI 1) v = Int32.toInt64 (Int64.toInt32 v) from rfl, qi_tt]
  · exact ⟨fun q => by omega, fun q => by omega⟩
theorem qp_arith {g k : Nat} (hN : ∀ k, k < 32 → qc_n64 (xm k) = true) (hg : 1 ≤ g ∧ g ≤ 5) (hk : 1 ≤ k ∧ k ≤ 4) (hl : r.length + 2 ≤ 24) (h : qp_R (k :: k :: r) pc xc pm xm) : qp_S w Ic Lc Dc Rc Ir Lr Dr Rr (nI (100 * g + k)) a (r.length + 2) pc xc pm xm (k :: r) := by
  obtain ⟨v1, v2, hR⟩ := h
  have v1 : qp_V k (pc (r.length + 1)) (xc (r.length + 1)) (pm (r.length + 1)) (xm (r.length + 1)) := v1
  have hgi : nI g = 1 ∨ nI g = 2 ∨ nI g = 3 ∨ nI g = 4 ∨ nI g = 5 := by
    rcases (show g = 1 ∨ g = 2 ∨ g = 3 ∨ g = 4 ∨ g = 5 by omega) with rfl | rfl | rfl | rfl | rfl
    · exact Or.inl rfl
    · exact Or.inr (Or.inl rfl)
    · exact Or.inr (Or.inr (Or.inl rfl))
    · exact Or.inr (Or.inr (Or.inr (Or.inl rfl)))
    · exact Or.inr (Or.inr (Or.inr (Or.inr rfl)))
  by_cases hk2 : k ≤ 2
  · have hk12 : k = 1 ∨ k = 2 := by omega
    obtain ⟨e1, -⟩ := v1.1 hk2
    obtain ⟨e2, -⟩ := v2.1 hk2
    have eX : fX4_step w (qc_u Ic 287 2 (nI (r.length + 2))) (qi_rr Lc 288 pc) (qi_rr Dc 289 xc) Rc (nI (100 * g + k)) a = (qc_bd (fX4_joinWholes w (qc_u Ic 287 2 (nI (r.length + 2))) (qi_rr Lc 288 pc) (qi_rr Dc 289 xc) Rc (nI g) (nI k)) fun r25 I25 L25 D25 R25 => some (r25, I25, L25, D25, R25)) := by
      rcases (show g = 1 ∨ g = 2 ∨ g = 3 ∨ g = 4 ∨ g = 5 by omega) with rfl | rfl | rfl | rfl | rfl <;> rcases hk12 with rfl | rfl <;> rfl
    have eM : fX12_does w (qc_u Ir 291 67 (nI (r.length + 2))) (qi_rr Lr 328 pm) (qi_rr Dr 329 xm) Rr (nI (100 * g + k)) a = (qc_bd (fX12_joins_ w (qc_u Ir 291 67 (nI (r.length + 2))) (qi_rr Lr 328 pm) (qi_rr Dr 329 xm) Rr (nI g) (nI k)) fun r I L D R => some ((), I, L, D, R)) := by
      rcases (show g = 1 ∨ g = 2 ∨ g = 3 ∨ g = 4 ∨ g = 5 by omega) with rfl | rfl | rfl | rfl | rfl <;> rcases hk12 with rfl | rfl <;> rfl
    have hki : nI k = 1 ∨ nI k = 2 := by rcases hk12 with rfl | rfl; exact Or.inl rfl; exact Or.inr rfl
    rw [cx_jw hl hgi] at eX
    rw [mx_jw hl hgi hki, ← e1, ← e2] at eM
    by_cases hz : 4 ≤ nI g ∧ pc (r.length + 1) = 0
    · rw [if_pos hz, qc_bds] at eX eM
      exact ⟨4, _, _, _, _, _, _, eX, by rw [if_neg (by decide)]; exact eM, fun q => absurd q (by decide), by decide, hN⟩
    · rw [if_neg hz, qc_bds] at eX eM
      exact qp_mkp hN rfl hk2 hR rfl (qp_rgn hk12 _) eX eM
  · have hk34 : k = 3 ∨ k = 4 := by omega
    obtain ⟨e1, n1, f1⟩ := v1.2 (by omega)
    obtain ⟨e2, n2, f2⟩ := v2.2 (by omega)
    have eX : fX4_step w (qc_u Ic 287 2 (nI (r.length + 2))) (qi_rr Lc 288 pc) (qi_rr Dc 289 xc) Rc (nI (100 * g + k)) a = (qc_bd (fX4_joinReals w (qc_u Ic 287 2 (nI (r.length + 2))) (qi_rr Lc 288 pc) (qi_rr Dc 289 xc) Rc (nI g) (nI k)) fun r25 I25 L25 D25 R25 => some (r25, I25, L25, D25, R25)) := by
      rcases (show g = 1 ∨ g = 2 ∨ g = 3 ∨ g = 4 ∨ g = 5 by omega) with rfl | rfl | rfl | rfl | rfl <;> rcases hk34 with rfl | rfl <;> rfl
    have eM : fX12_does w (qc_u Ir 291 67 (nI (r.length + 2))) (qi_rr Lr 328 pm) (qi_rr Dr 329 xm) Rr (nI (100 * g + k)) a = (qc_bd (fX12_joins_ w (qc_u Ir 291 67 (nI (r.length + 2))) (qi_rr Lr 328 pm) (qi_rr Dr 329 xm) Rr (nI g) (nI k)) fun r I L D R => some ((), I, L, D, R)) := by
      rcases (show g = 1 ∨ g = 2 ∨ g = 3 ∨ g = 4 ∨ g = 5 by omega) with rfl | rfl | rfl | rfl | rfl <;> rcases hk34 with rfl | rfl <;> rfl
    have hki : nI k = 3 ∨ nI k = 4 := by rcases hk34 with rfl | rfl; exact Or.inl rfl; exact Or.inr rfl
    rw [cx_jr hl n2 n1] at eX
    rw [mx_jr hl hki (by rw [← e2]; exact n2) (by rw [← e1]; exact n1), ← e1, ← e2] at eM
    by_cases hz : qf_lost (nI g) (xc r.length) (xc (r.length + 1)) = true
    · rw [if_pos hz, qc_bds] at eX eM
      exact ⟨5, _, _, _, _, _, _, eX, by rw [if_neg (by decide)]; exact eM, fun q => absurd q (by decide), by decide, hN⟩
    · rw [if_neg hz] at eX eM
      have hz2 : qf_lost (nI g) (xc r.length) (xc (r.length + 1)) = false := by cases e : qf_lost (nI g) (xc r.length) (xc (r.length + 1)); rfl; exact absurd e hz
      rcases hk34 with rfl | rfl
      · have b1 := qf_isF_back (f1 rfl)
        have b2 := qf_isF_back (f2 rfl)
        have m1 := qf_d2f_N n1
        have m2 := qf_d2f_N n2
        have hz3 : qf_lost (nI g) (FP.f2d (FP.d2f (xc r.length))) (FP.f2d (FP.d2f (xc (r.length + 1)))) = false := by rw [b1, b2]; exact hz2
        have hj := qf_fj_N m2 m1 hz3
        rw [if_pos (show nI 3 = (3 : Int32) from rfl), (qf_n32 _).mpr m1, (qf_n32 _).mpr m2, qc_gdt, qc_gdt, fx_joinedFloats m2 m1 hz3, qc_bds, cx_b57 hl, qc_bds] at eX
        rw [if_pos (show nI 3 = (3 : Int32) from rfl), (qf_n32 _).mpr m1, (qf_n32 _).mpr m2, qc_gdt, qc_gdt, fm_joinedFloats m2 m1 hz3, qc_bds, qc_bds, qi_rr_u] at eM
        exact qp_mkx hN rfl (by decide) hR rfl (qf_f2d_N hj) (fun _ => ⟨_, (qf_n32 _).mpr hj, rfl⟩) eX eM
      · rw [if_neg (show ¬ nI 4 = (3 : Int32) by decide), fx_joined n2 n1 hz2, qc_bds, cx_b57 hl, qc_bds] at eX
        rw [if_neg (show ¬ nI 4 = (3 : Int32) by decide), fm_joined n2 n1 hz2, qc_bds, qc_bds, qi_rr_u] at eM
        exact qp_mkx hN rfl (by decide) hR rfl (qf_join_N n2 n1 hz2) (fun q => by cases q) eX eM
end
