/-! bits, shifts, turns, comparisons of both -/
theorem qb_and (u v : Int32) : Int32.toInt64 u &&& Int32.toInt64 v = Int32.toInt64 (u &&& v) := by
  apply Int64.toBitVec_inj.mp
  show u.toBitVec.signExtend 64 &&& v.toBitVec.signExtend 64 = (u.toBitVec &&& v.toBitVec).signExtend 64
  rw [BitVec.signExtend_and]
theorem qb_or (u v : Int32) : Int32.toInt64 u ||| Int32.toInt64 v = Int32.toInt64 (u ||| v) := by
  apply Int64.toBitVec_inj.mp
  show u.toBitVec.signExtend 64 ||| v.toBitVec.signExtend 64 = (u.toBitVec ||| v.toBitVec).signExtend 64
  rw [BitVec.signExtend_or]
theorem qb_xor (u v : Int32) : Int32.toInt64 u ^^^ Int32.toInt64 v = Int32.toInt64 (u ^^^ v) := by
  apply Int64.toBitVec_inj.mp
  show u.toBitVec.signExtend 64 ^^^ v.toBitVec.signExtend 64 = (u.toBitVec ^^^ v.toBitVec).signExtend 64
  rw [BitVec.signExtend_xor]
theorem qb_not (u : Int32) : Int32.toInt64 u ^^^ -1 = Int32.toInt64 (u ^^^ -1) := by
  rw [show (-1 : Int64) = Int32.toInt64 (-1) by decide, qb_xor]
theorem qb_63 (u : Int32) : Int32.toInt64 (u &&& 63) &&& 63 = Int32.toInt64 u &&& 63 := by
  rw [show (63 : Int64) = Int32.toInt64 63 by decide, qb_and, qb_and]
  congr 1
  apply Int32.toBitVec_inj.mp
  show (u.toBitVec &&& 63#32) &&& 63#32 = u.toBitVec &&& 63#32
  rw [BitVec.and_assoc, BitVec.and_self]
theorem qb_31 (u : Int32) : (u &&& 31) &&& 31 = u &&& 31 := by
  apply Int32.toBitVec_inj.mp
  show (u.toBitVec &&& 31#32) &&& 31#32 = u.toBitVec &&& 31#32
  rw [BitVec.and_assoc, BitVec.and_self]
theorem qb_31u (u : Int32) : Int32.toUInt32 (u &&& 31) &&& Int32.toUInt32 31 = Int32.toUInt32 u &&& Int32.toUInt32 31 := by
  show ((u &&& 31) &&& 31).toUInt32 = (u &&& 31).toUInt32
  rw [qb_31]
theorem qb_63u (u : Int32) : Int64.toUInt64 (Int32.toInt64 (u &&& 63)) &&& Int64.toUInt64 63 = Int64.toUInt64 (Int32.toInt64 u) &&& Int64.toUInt64 63 := by
  show (Int32.toInt64 (u &&& 63) &&& 63).toUInt64 = (Int32.toInt64 u &&& 63).toUInt64
  rw [qb_63]
def qp_bt (g : Int32) (x y : Int64) : Int64 := if g = 6 then x &&& y else if g = 7 then x ||| y else x ^^^ y
theorem qb_in {a : Int64} (h : a = a.toInt32.toInt64) : ∃ u : Int32, a = Int32.toInt64 u := ⟨_, h⟩
theorem qb_bt {g : Int32} {x y : Int64} (hx : x = x.toInt32.toInt64) (hy : y = y.toInt32.toInt64) : Int32.toInt64 (Int64.toInt32 (qp_bt g x y)) = qp_bt g x y := by
  obtain ⟨u, rfl⟩ := qb_in hx
  obtain ⟨v, rfl⟩ := qb_in hy
  unfold qp_bt
  rw [qb_and, qb_or, qb_xor]
  split
  · rw [qi_tt]
  · split <;> rw [qi_tt]
theorem qb_01 {g : Int32} {x y : Int64} (hx : x = 0 ∨ x = 1) (hy : y = 0 ∨ y = 1) : qp_bt g x y = 0 ∨ qp_bt g x y = 1 := by
  unfold qp_bt
  rcases hx with rfl | rfl <;> rcases hy with rfl | rfl
  all_goals by_cases h6 : g = 6
  all_goals by_cases h7 : g = 7
  all_goals simp only [h6, h7, if_true, if_false]
  all_goals first | decide | (split <;> decide)
theorem qb_01i {x : Int64} (hx : x = 0 ∨ x = 1) : x = x.toInt32.toInt64 := by rcases hx with rfl | rfl <;> decide
section
variable {w : qcW} {I : qTI} {L : qTL} {D : qTD} {R : qTR} {p : Nat → Int64} {x : Nat → UInt64} {n : Nat} {g k : Int32}
theorem cx_jb (hn : n + 2 ≤ 24) (hg : g = 6 ∨ g = 7 ∨ g = 8) : fX4_joinBits w (qc_u I 287 2 (nI (n + 2))) (qi_rr L 288 p) D R g k = some ((), qc_u I 287 2 (nI (n + 1)), qi_rr L 288 (qi_up p n (qp_bt g (p n) (p (n + 1)))), D, R) := by
  unfold fX4_joinBits qp_bt
  rw [cx_take (n := n + 1) (by omega), qc_bds, cx_take (by omega), qc_bds]
  simp only [cx_lay (w := w) (I := I) (L := L) (D := D) (R := R) (p := p) (n := n) (by omega), qc_bds]
  rcases hg with rfl | rfl | rfl <;> rfl
theorem mx_jb (hn : n + 2 ≤ 24) (hg : g = 6 ∨ g = 7 ∨ g = 8) (hk : k = 1 ∨ k = 2) : fX12_joins_ w (qc_u I 291 67 (nI (n + 2))) (qi_rr L 328 p) D R g k = some ((), qc_u I 291 67 (nI (n + 1)), qi_rr L 328 (qi_up p n (qp_nw k (qp_bt g (p n) (p (n + 1))))), D, R) := by
  obtain ⟨b0, b1, c0, c1, d2, d1⟩ := mx_b hn
  have hrk : ∀ (J : qTI) (y z : Int64), fX12_reckoned w J (qi_rr L 328 p) D R g y z = some (qp_bt g y z, J, qi_rr L 328 p, D, R) := by
    intro J y z
    unfold fX12_reckoned qp_bt
    rcases hg with rfl | rfl | rfl <;> rfl
  have fin : fX12_joins__b61 w (qc_u I 291 67 (nI (n + 1))) (qi_rr L 328 p) D R g k (p n) (p (n + 1)) = some ((), qc_u I 291 67 (nI (n + 1)), qi_rr L 328 (qi_up p n (qp_nw k (qp_bt g (p n) (p (n + 1))))), D, R) := by
    unfold fX12_joins__b61 qp_nw
    simp only [hrk, qc_bds, qc_u_at, d1, b0, qc_gdt, c0, qi_rr_u]
    split <;> rfl
  have hk3 : ¬ (3 : Int32) ≤ k := by rcases hk with rfl | rfl <;> decide
  have g4 : ¬ g = 4 := by rcases hg with rfl | rfl | rfl <;> decide
  have g5 : ¬ g = 5 := by rcases hg with rfl | rfl | rfl <;> decide
  unfold fX12_joins_
  simp only [hk3, if_false, qc_u_at, d2, d1, b0, b1, qc_gdt, c0, c1, qi_rr_on, qc_uu, g4, g5, fin]
  split <;> rfl
def qp_sh (g k : Int32) (x y : Int64) : Int64 := if g = 9 then (if k = 1 then Int32.toInt64 ((Int64.toInt32 x) <<< ((Int64.toInt32 y) &&& 31)) else x <<< (Int32.toInt64 (Int64.toInt32 y) &&& 63)) else if g = 10 then (if k = 1 then Int32.toInt64 ((Int64.toInt32 x) >>> ((Int64.toInt32 y) &&& 31)) else x >>> (Int32.toInt64 (Int64.toInt32 y) &&& 63)) else (if k = 1 then Int32.toInt64 (UInt32.toInt32 (Int32.toUInt32 (Int64.toInt32 x) >>> (Int32.toUInt32 (Int64.toInt32 y) &&& Int32.toUInt32 31))) else UInt64.toInt64 (Int64.toUInt64 x >>> (Int64.toUInt64 (Int32.toInt64 (Int64.toInt32 y)) &&& Int64.toUInt64 63)))
theorem cx_sh (hn : n + 2 ≤ 24) (hg : g = 9 ∨ g = 10 ∨ g = 11) (hk : k = 1 ∨ k = 2) : fX4_joinBits w (qc_u I 287 2 (nI (n + 2))) (qi_rr L 288 p) D R g k = some ((), qc_u I 287 2 (nI (n + 1)), qi_rr L 288 (qi_up p n (qp_sh g k (p n) (p (n + 1)))), D, R) := by
  unfold fX4_joinBits qp_sh fX4_joinBits_b118 fX4_joinBits_b148 fX4_joinBits_b178
  rw [cx_take (n := n + 1) (by omega), qc_bds, cx_take (by omega), qc_bds]
  simp only [cx_lay (w := w) (I := I) (L := L) (D := D) (R := R) (p := p) (n := n) (by omega), qc_bds]
  rcases hg with rfl | rfl | rfl <;> rcases hk with rfl | rfl <;> rfl
theorem mx_sh (hn : n + 2 ≤ 24) (hg : g = 9 ∨ g = 10 ∨ g = 11) (hk : k = 1 ∨ k = 2) : fX12_shifts w (qc_u I 291 67 (nI (n + 2))) (qi_rr L 328 p) D R g k = some ((), qc_u I 291 67 (nI (n + 1)), qi_rr L 328 (qi_up p n (qp_sh g k (p n) (p (n + 1)))), D, R) := by
  obtain ⟨b0, b1, c0, c1, d2, d1⟩ := mx_b hn
  unfold fX12_shifts qp_sh
  simp only [qc_u_at, d2, d1, b0, b1, qc_gdt, c0, c1, qi_rr_on, qc_uu, qi_rr_u, qb_31, qb_63, qb_31u, qb_63u]
  rcases hg with rfl | rfl | rfl <;> rcases hk with rfl | rfl <;> rfl
def qp_cm (a b : Int64) : Int32 := if a < b then -1 else if b < a then 1 else 0
def qp_cmx (a b : UInt64) : Int32 := if qk a < qk b then -1 else if qk b < qk a then 1 else 0
theorem cx_cp (hn : n + 2 ≤ 24) (hk : k = 1 ∨ k = 2) : fX4_compare w (qc_u I 287 2 (nI (n + 2))) (qi_rr L 288 p) D R k = some ((), qc_u I 287 2 (nI (n + 1)), qi_rr L 288 (qi_up p n (Int32.toInt64 (qp_cm (p n) (p (n + 1))))), D, R) := by
  have hk3 : k < 3 := by rcases hk with rfl | rfl <;> decide
  have hc : ∀ (J : qTI) (y z : Int64), fJ13_compare_74951 w J (qi_rr L 288 p) D R y z = some (qp_cm y z, J, qi_rr L 288 p, D, R) := by
    intro J y z
    unfold fJ13_compare_74951 qp_cm
    simp only [lg_cmp_ge, lg_cmp_eq, Int64.le_iff_toInt_le, Int64.lt_iff_toInt_lt]
    by_cases h1 : y = z
    · subst h1
      rw [if_pos (Int.le_refl _), if_pos rfl, if_neg (by omega), if_neg (by omega)]
    · have hne : y.toInt ≠ z.toInt := fun q => h1 (Int64.toInt_inj.mp q)
      by_cases h2 : y.toInt < z.toInt
      · rw [if_neg (by omega), if_pos h2]
      · rw [if_pos (by omega), if_neg h1, if_neg h2, if_pos (by omega)]
  unfold fX4_compare
  rw [if_pos hk3, cx_take (n := n + 1) (by omega), qc_bds, cx_take (by omega), qc_bds, hc, qc_bds, cx_lay (by omega), qc_bds]
theorem mx_cp (hn : n + 2 ≤ 24) (hk : k = 1 ∨ k = 2) : fX12_compares w (qc_u I 291 67 (nI (n + 2))) (qi_rr L 328 p) D R k = some ((), qc_u I 291 67 (nI (n + 1)), qi_rr L 328 (qi_up p n (Int32.toInt64 (qp_cm (p n) (p (n + 1))))), D, R) := by
  obtain ⟨b0, b1, c0, c1, d2, d1⟩ := mx_b hn
  have hk3 : ¬ (3 : Int32) ≤ k := by rcases hk with rfl | rfl <;> decide
  unfold fX12_compares fX12_compares_b76 fX12_compares_b143 qp_cm
  simp only [hk3, if_false, qc_u_at, d2, d1, b0, b1, qc_gdt, c0, c1, qi_rr_on, qc_uu, qi_rr_u, lg_cmp_ge, lg_cmp_le, Int64.le_iff_toInt_le, Int64.lt_iff_toInt_lt, if_true]
  by_cases h1 : (p n).toInt < (p (n + 1)).toInt
  · rw [if_neg (by omega), if_pos (by omega), if_pos h1]
    rfl
  · rw [if_pos (by omega), if_neg h1]
    by_cases h2 : (p (n + 1)).toInt < (p n).toInt
    · rw [if_neg (by omega), if_pos h2]
      rfl
    · rw [if_pos (by omega), if_neg h2]
      rfl
theorem cx_cpx (hn : n + 2 ≤ 24) (hk : k = 3 ∨ k = 4) (h1 : qf_N (x n)) (h2 : qf_N (x (n + 1))) : fX4_compare w (qc_u I 287 2 (nI (n + 2))) (qi_rr L 288 p) (qi_rr D 289 x) R k = some ((), qc_u I 287 2 (nI (n + 1)), qi_rr L 288 (qi_up p n (Int32.toInt64 (qp_cmx (x n) (x (n + 1))))), qi_rr D 289 x, R) := by
  have hk3 : ¬ k < 3 := by rcases hk with rfl | rfl <;> decide
  unfold fX4_compare
  rw [if_neg hk3, cx_takeR (n := n + 1) (by omega), qc_bds, cx_takeR (by omega), qc_bds, fx_compared h1 h2, qc_bds, cx_lay (by omega), qc_bds]
  rfl
theorem mx_cpx (hn : n + 2 ≤ 24) (hk : k = 3 ∨ k = 4) (h1 : qf_N (x n)) (h2 : qf_N (x (n + 1))) : fX12_compares w (qc_u I 291 67 (nI (n + 2))) (qi_rr L 328 p) (qi_rr D 329 x) R k = some ((), qc_u I 291 67 (nI (n + 1)), qi_rr L 328 (qi_up p n (Int32.toInt64 (qp_cmx (x n) (x (n + 1))))), qi_rr D 329 x, R) := by
  obtain ⟨b0, b1, c0, c1, d2, d1⟩ := mx_b hn
  have hk3 : (3 : Int32) ≤ k := by rcases hk with rfl | rfl <;> decide
  unfold fX12_compares fX12_compares_b76 fX12_compares_b143 qp_cmx
  simp only [hk3, if_true, qc_u_at, d2, d1, b0, b1, qc_gdt, c0, c1, qi_rr_on, qc_uu, qi_rr_u, qk_ge h1 h2, qk_le h1 h2]
  by_cases h3 : qk (x n) < qk (x (n + 1))
  · rw [if_neg (by omega), if_pos (by omega), if_pos h3]
    rfl
  · rw [if_pos (by omega), if_neg h3]
    by_cases h4 : qk (x (n + 1)) < qk (x n)
    · rw [if_neg (by omega), if_pos h4]
      rfl
    · rw [if_pos (by omega), if_neg h4]
      rfl
end
section
variable {w : qcW} {Ic : qTI} {Lc : qTL} {Dc : qTD} {Rc : qTR} {Ir : qTI} {Lr : qTL} {Dr : qTD} {Rr : qTR} {a : Int32} {pc : Nat → Int64} {xc : Nat → UInt64} {pm : Nat → Int64} {xm : Nat → UInt64} {r : List Nat}
theorem qp_bits {g k kk : Nat} (hN : ∀ k, k < 32 → qc_n64 (xm k) = true) (hg : 6 ≤ g ∧ g ≤ 8) (hk : (k = 0 ∧ kk = 1) ∨ (k = kk ∧ (k = 1 ∨ k = 2))) (hl : r.length + 2 ≤ 24) (h : qp_R (k :: k :: r) pc xc pm xm) : qp_S w Ic Lc Dc Rc Ir Lr Dr Rr (nI (100 * g + kk)) a (r.length + 2) pc xc pm xm (k :: r) := by
  obtain ⟨v1, v2, hR⟩ := h
  have v1 : qp_V k (pc (r.length + 1)) (xc (r.length + 1)) (pm (r.length + 1)) (xm (r.length + 1)) := v1
  have hk2 : k ≤ 2 := by omega
  obtain ⟨e1, g1⟩ := v1.1 hk2
  obtain ⟨e2, g2⟩ := v2.1 hk2
  have hgi : nI g = 6 ∨ nI g = 7 ∨ nI g = 8 := by
    rcases (show g = 6 ∨ g = 7 ∨ g = 8 by omega) with rfl | rfl | rfl
    · exact Or.inl rfl
    · exact Or.inr (Or.inl rfl)
    · exact Or.inr (Or.inr rfl)
  have hkk : kk = 1 ∨ kk = 2 := by omega
  have hki : nI kk = 1 ∨ nI kk = 2 := by rcases hkk with rfl | rfl; exact Or.inl rfl; exact Or.inr rfl
  have eX : fX4_step w (qc_u Ic 287 2 (nI (r.length + 2))) (qi_rr Lc 288 pc) (qi_rr Dc 289 xc) Rc (nI (100 * g + kk)) a = (qc_bd (fX4_joinBits w (qc_u Ic 287 2 (nI (r.length + 2))) (qi_rr Lc 288 pc) (qi_rr Dc 289 xc) Rc (nI g) (nI kk)) fun r25 I25 L25 D25 R25 => some (0, I25, L25, D25, R25)) := by
    rcases (show g = 6 ∨ g = 7 ∨ g = 8 by omega) with rfl | rfl | rfl <;> rcases hkk with rfl | rfl <;> rfl
  have eM : fX12_does w (qc_u Ir 291 67 (nI (r.length + 2))) (qi_rr Lr 328 pm) (qi_rr Dr 329 xm) Rr (nI (100 * g + kk)) a = (qc_bd (fX12_joins_ w (qc_u Ir 291 67 (nI (r.length + 2))) (qi_rr Lr 328 pm) (qi_rr Dr 329 xm) Rr (nI g) (nI kk)) fun r I L D R => some ((), I, L, D, R)) := by
    rcases (show g = 6 ∨ g = 7 ∨ g = 8 by omega) with rfl | rfl | rfl <;> rcases hkk with rfl | rfl <;> rfl
  rw [cx_jb hl hgi, qc_bds] at eX
  rw [mx_jb hl hgi hki, ← e1, ← e2, qc_bds] at eM
  have hin : kk = 1 → pc r.length = (pc r.length).toInt32.toInt64 ∧ pc (r.length + 1) = (pc (r.length + 1)).toInt32.toInt64 := by
    intro hq
    rcases hk with ⟨k0, -⟩ | ⟨k0, -⟩
    · exact ⟨qb_01i (g2.1 k0), qb_01i (g1.1 k0)⟩
    · exact ⟨g2.2 (by omega), g1.2 (by omega)⟩
  have hnw : qp_nw (nI kk) (qp_bt (nI g) (pc r.length) (pc (r.length + 1))) = qp_bt (nI g) (pc r.length) (pc (r.length + 1)) := by
    rcases hkk with rfl | rfl
    · obtain ⟨i1, i2⟩ := hin rfl
      exact qb_bt i1 i2
    · rfl
  rw [hnw] at eM
  refine qp_mkp hN rfl hk2 hR rfl ⟨fun k0 => qb_01 (g2.1 k0) (g1.1 k0), fun k1 => ?_⟩ eX eM
  obtain ⟨i1, i2⟩ := hin (by omega)
  exact (qb_bt i1 i2).symm
theorem qp_shift {g k : Nat} (hN : ∀ k, k < 32 → qc_n64 (xm k) = true) (hg : 9 ≤ g ∧ g ≤ 11) (hk : k = 1 ∨ k = 2) (hl : r.length + 2 ≤ 24) (h : qp_R (1 :: k :: r) pc xc pm xm) : qp_S w Ic Lc Dc Rc Ir Lr Dr Rr (nI (100 * g + k)) a (r.length + 2) pc xc pm xm (k :: r) := by
  obtain ⟨v1, v2, hR⟩ := h
  have v1 : qp_V 1 (pc (r.length + 1)) (xc (r.length + 1)) (pm (r.length + 1)) (xm (r.length + 1)) := v1
  obtain ⟨e1, -⟩ := v1.1 (by decide)
  obtain ⟨e2, -⟩ := v2.1 (by omega)
  have hgi : nI g = 9 ∨ nI g = 10 ∨ nI g = 11 := by
    rcases (show g = 9 ∨ g = 10 ∨ g = 11 by omega) with rfl | rfl | rfl
    · exact Or.inl rfl
    · exact Or.inr (Or.inl rfl)
    · exact Or.inr (Or.inr rfl)
  have hki : nI k = 1 ∨ nI k = 2 := by rcases hk with rfl | rfl; exact Or.inl rfl; exact Or.inr rfl
  have eX : fX4_step w (qc_u Ic 287 2 (nI (r.length + 2))) (qi_rr Lc 288 pc) (qi_rr Dc 289 xc) Rc (nI (100 * g + k)) a = (qc_bd (fX4_joinBits w (qc_u Ic 287 2 (nI (r.length + 2))) (qi_rr Lc 288 pc) (qi_rr Dc 289 xc) Rc (nI g) (nI k)) fun r25 I25 L25 D25 R25 => some (0, I25, L25, D25, R25)) := by
    rcases (show g = 9 ∨ g = 10 ∨ g = 11 by omega) with rfl | rfl | rfl <;> rcases hk with rfl | rfl <;> rfl
  have eM : fX12_does w (qc_u Ir 291 67 (nI (r.length + 2))) (qi_rr Lr 328 pm) (qi_rr Dr 329 xm) Rr (nI (100 * g + k)) a = (qc_bd (fX12_shifts w (qc_u Ir 291 67 (nI (r.length + 2))) (qi_rr Lr 328 pm) (qi_rr Dr 329 xm) Rr (nI g) (nI k)) fun r I L D R => some ((), I, L, D, R)) := by
    rcases (show g = 9 ∨ g = 10 ∨ g = 11 by omega) with rfl | rfl | rfl <;> rcases hk with rfl | rfl <;> rfl
  rw [cx_sh hl hgi hki, qc_bds] at eX
  rw [mx_sh hl hgi hki, ← e1, ← e2, qc_bds] at eM
  refine qp_mkp hN rfl (by omega) hR rfl ⟨fun k0 => by omega, fun k1 => ?_⟩ eX eM
  subst k1
  rcases hgi with q | q | q <;> rw [q] <;> exact (congrArg Int32.toInt64 (qi_tt _)).symm
theorem qp_comp {k kk : Nat} (hN : ∀ k, k < 32 → qc_n64 (xm k) = true) (hk : (k = 0 ∧ kk = 1) ∨ (k = kk ∧ 1 ≤ k ∧ k ≤ 4)) (hl : r.length + 2 ≤ 24) (h : qp_R (k :: k :: r) pc xc pm xm) : qp_S w Ic Lc Dc Rc Ir Lr Dr Rr (nI (1400 + kk)) a (r.length + 2) pc xc pm xm (1 :: r) := by
  obtain ⟨v1, v2, hR⟩ := h
  have v1 : qp_V k (pc (r.length + 1)) (xc (r.length + 1)) (pm (r.length + 1)) (xm (r.length + 1)) := v1
  have eX : fX4_step w (qc_u Ic 287 2 (nI (r.length + 2))) (qi_rr Lc 288 pc) (qi_rr Dc 289 xc) Rc (nI (1400 + kk)) a = (qc_bd (fX4_compare w (qc_u Ic 287 2 (nI (r.length + 2))) (qi_rr Lc 288 pc) (qi_rr Dc 289 xc) Rc (nI kk)) fun r25 I25 L25 D25 R25 => some (0, I25, L25, D25, R25)) := by
    rcases (show kk = 1 ∨ kk = 2 ∨ kk = 3 ∨ kk = 4 by omega) with rfl | rfl | rfl | rfl <;> rfl
  have eM : fX12_does w (qc_u Ir 291 67 (nI (r.length + 2))) (qi_rr Lr 328 pm) (qi_rr Dr 329 xm) Rr (nI (1400 + kk)) a = (qc_bd (fX12_compares w (qc_u Ir 291 67 (nI (r.length + 2))) (qi_rr Lr 328 pm) (qi_rr Dr 329 xm) Rr (nI kk)) fun r I L D R => some ((), I, L, D, R)) := by
    rcases (show kk = 1 ∨ kk = 2 ∨ kk = 3 ∨ kk = 4 by omega) with rfl | rfl | rfl | rfl <;> rfl
  have rg1 : ∀ v : Int32, qp_rg 1 (Int32.toInt64 v) := fun v => ⟨fun q => by omega, fun _ => by rw [qi_tt]⟩
  by_cases hk2 : k ≤ 2
  · obtain ⟨e1, -⟩ := v1.1 hk2
    obtain ⟨e2, -⟩ := v2.1 hk2
    have hki : nI kk = 1 ∨ nI kk = 2 := by rcases (show kk = 1 ∨ kk = 2 by omega) with rfl | rfl; exact Or.inl rfl; exact Or.inr rfl
    rw [cx_cp hl hki, qc_bds] at eX
    rw [mx_cp hl hki, ← e1, ← e2, qc_bds] at eM
    exact qp_mkp hN rfl (by decide) hR rfl (rg1 _) eX eM
  · obtain ⟨e1, n1, -⟩ := v1.2 (by omega)
    obtain ⟨e2, n2, -⟩ := v2.2 (by omega)
    have hki : nI kk = 3 ∨ nI kk = 4 := by rcases (show kk = 3 ∨ kk = 4 by omega) with rfl | rfl; exact Or.inl rfl; exact Or.inr rfl
    rw [cx_cpx hl hki n2 n1, qc_bds] at eX
    rw [mx_cpx hl hki (by rw [← e2]; exact n2) (by rw [← e1]; exact n1), ← e1, ← e2, qc_bds] at eM
    exact qp_mkp hN rfl (by decide) hR rfl (rg1 _) eX eM
end
