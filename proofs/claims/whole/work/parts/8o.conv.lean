/-! relations, conversions, lesser and greater, what is laid -/
section
variable {w : qcW} {I : qTI} {L : qTL} {D : qTD} {R : qTR} {p : Nat → Int64} {x : Nat → UInt64} {n : Nat} {g k : Int32}
def qp_so (j : Int32) (v : Int64) : Bool := if j = 0 then decide (v = 0) else if j = 1 then !decide (v = 0) else if j = 2 then decide (v.toInt < 0) else if j = 3 then decide (0 < v.toInt) else if j = 4 then decide (v.toInt ≤ 0) else decide (0 ≤ v.toInt)
theorem cx_so (j : Int32) (v : Int64) : fX4_holds w I L D R j v = some (qp_so j v, I, L, D, R) := by
  unfold fX4_holds qp_so
  simp only [lg_cmp_eq, lg_cmp_ge, lg_cmp_le, lg_cmp_gt, lg_cmp_lt, Int64.le_iff_toInt_le, Int64.lt_iff_toInt_lt, show (0 : Int64).toInt = 0 from rfl]
  repeat' split
  all_goals (first | (simp_all; done) | (simp_all; omega))
theorem mx_so (j : Int32) (v : Int64) : fX12_isSo w I L D R j v = some (qp_so j v, I, L, D, R) := by
  unfold fX12_isSo qp_so
  simp only [lg_cmp_eq, lg_cmp_ge, lg_cmp_le, lg_cmp_gt, lg_cmp_lt, Int64.le_iff_toInt_le, Int64.lt_iff_toInt_lt, show (0 : Int64).toInt = 0 from rfl]
  repeat' split
  all_goals (first | (simp_all; done) | (simp_all; omega))
def qp_b1 (b : Bool) : Int64 := if b = true then 1 else 0
def qp_mm (j : Int32) (y z : Int64) : Int64 := if j = 5 then (if z < y then z else y) else (if y < z then z else y)
theorem cx_mm (hn : n + 2 ≤ 24) (hg : g = 5 ∨ g = 6) : fX4_applyToWholes w (qc_u I 287 2 (nI (n + 2))) (qi_rr L 288 p) D R g k = some ((), qc_u I 287 2 (nI (n + 1)), qi_rr L 288 (qi_up p n (qp_mm g (p n) (p (n + 1)))), D, R) := by
  have h0 : ¬ g = 0 := by rcases hg with rfl | rfl <;> decide
  unfold fX4_applyToWholes fX4_applyToWholes_b83 fJ9_min_f86c9 fJ9_max_f86c9 qp_mm
  rw [cx_take (n := n + 1) (by omega), qc_bds, if_neg h0, cx_take (by omega), qc_bds]
  simp only [lg_cmp_gt, lg_cmp_lt]
  rcases hg with rfl | rfl
  · by_cases h : p (n + 1) < p n
    · simp only [h, if_true, qc_bds, cx_lay (w := w) (I := I) (L := L) (D := D) (R := R) (p := p) (n := n) (by omega)]
    · simp only [h, if_true, if_false, qc_bds, cx_lay (w := w) (I := I) (L := L) (D := D) (R := R) (p := p) (n := n) (by omega)]
  · have h65 : ¬ (6 : Int32) = 5 := by decide
    by_cases h : p n < p (n + 1)
    · simp only [h, h65, if_true, if_false, qc_bds, cx_lay (w := w) (I := I) (L := L) (D := D) (R := R) (p := p) (n := n) (by omega)]
    · simp only [h, h65, if_false, qc_bds, cx_lay (w := w) (I := I) (L := L) (D := D) (R := R) (p := p) (n := n) (by omega)]
theorem mx_b2 (hn : n + 2 ≤ 24) : nI (n + 1) + -1 = nI n ∧ nI n + 1 = nI (n + 1) := ⟨by rw [← Int32.sub_eq_add_neg]; exact qi_d1 n, qi_s1 n⟩
theorem mx_mm (hn : n + 2 ≤ 24) {o : Int32} (hg : (g = 5 ∧ o = 175) ∨ (g = 6 ∧ o = 176)) (hk : k = 1 ∨ k = 2) : fX12_functions w (qc_u I 291 67 (nI (n + 2))) (qi_rr L 328 p) D R o k = some ((), qc_u I 291 67 (nI (n + 1)), qi_rr L 328 (qi_up p n (qp_mm g (p n) (p (n + 1)))), D, R) := by
  obtain ⟨b0, b1, c0, c1, d2, d1⟩ := mx_b hn
  obtain ⟨a1, a2⟩ := mx_b2 hn
  have hk3 : ¬ (3 : Int32) ≤ k := by rcases hk with rfl | rfl <;> decide
  have ho : ¬ o = 170 ∧ ¬ o = 171 ∧ ¬ o = 172 ∧ ¬ o = 173 ∧ ¬ o = 174 := by rcases hg with ⟨-, rfl⟩ | ⟨-, rfl⟩ <;> decide
  unfold fX12_functions fX12_functions_b297 qp_mm
  simp only [ho.1, ho.2.1, ho.2.2.1, ho.2.2.2.1, ho.2.2.2.2, hk3, if_false, qc_u_at, d2, a1, a2, b0, b1, qc_gdt, c0, c1, qi_rr_on, qc_uu, qi_rr_u, lg_cmp_gt, lg_cmp_lt]
  rcases hg with ⟨rfl, rfl⟩ | ⟨rfl, rfl⟩
  · have h10 : ¬ (1 : Int32) = 0 := by decide
    by_cases h : p (n + 1) < p n
    · simp only [h, if_true]
    · simp only [h, h10, if_true, if_false]
  · have h65 : ¬ (6 : Int32) = 5 := by decide
    have h76 : ¬ (176 : Int32) = 175 := by decide
    have h10 : ¬ (1 : Int32) = 0 := by decide
    by_cases h : p n < p (n + 1)
    · simp only [h, h65, h76, if_true, if_false]
    · simp only [h, h65, h76, h10, if_false]
def qp_mx (j : Int32) (y z : UInt64) : UInt64 := if j = 5 then qf_less y z else qf_more y z
theorem cx_mx (hn : n + 2 ≤ 24) (hg : g = 5 ∨ g = 6) (h1 : qf_N (x n)) (h2 : qf_N (x (n + 1))) : fX4_applyToReals w (qc_u I 287 2 (nI (n + 2))) L (qi_rr D 289 x) R g = some ((), qc_u I 287 2 (nI (n + 1)), L, qi_rr D 289 (qi_up x n (qp_mx g (x n) (x (n + 1)))), R) := by
  have ho : ¬ g = 0 ∧ ¬ g = 1 ∧ ¬ g = 2 ∧ ¬ g = 3 ∧ ¬ g = 4 := by rcases hg with rfl | rfl <;> decide
  unfold fX4_applyToReals qp_mx
  rw [cx_takeR (n := n + 1) (by omega), qc_bds]
  simp only [ho.1, ho.2.1, ho.2.2.1, ho.2.2.2.1, ho.2.2.2.2, if_false, cx_takeR (w := w) (I := I) (L := L) (D := D) (R := R) (x := x) (n := n) (by omega), qc_bds, fx_lesser h1 h2, fx_greater h1 h2, cx_layR (w := w) (I := I) (L := L) (D := D) (R := R) (x := x) (n := n) (by omega)]
  rcases hg with rfl | rfl <;> rfl
theorem mx_mx (hn : n + 2 ≤ 24) {o : Int32} (hg : (g = 5 ∧ o = 175) ∨ (g = 6 ∧ o = 176)) (hk : k = 3 ∨ k = 4) (h1 : qf_N (x n)) (h2 : qf_N (x (n + 1))) : fX12_functions w (qc_u I 291 67 (nI (n + 2))) L (qi_rr D 329 x) R o k = some ((), qc_u I 291 67 (nI (n + 1)), L, qi_rr D 329 (qi_up x n (qp_mx g (x n) (x (n + 1)))), R) := by
  obtain ⟨b0, b1, c0, c1, d2, d1⟩ := mx_b hn
  obtain ⟨a1, a2⟩ := mx_b2 hn
  have hk3 : (3 : Int32) ≤ k := by rcases hk with rfl | rfl <;> decide
  have ho : ¬ o = 170 ∧ ¬ o = 171 ∧ ¬ o = 172 ∧ ¬ o = 173 ∧ ¬ o = 174 := by rcases hg with ⟨-, rfl⟩ | ⟨-, rfl⟩ <;> decide
  unfold fX12_functions qp_mx
  simp only [ho.1, ho.2.1, ho.2.2.1, ho.2.2.2.1, ho.2.2.2.2, hk3, if_false, if_true, qc_u_at, d2, a1, a2, b0, b1, qc_gdt, c0, c1, qi_rr_on, qc_uu, qi_rr_u, fm_lesser h1 h2, fm_greater h1 h2, qc_bds]
  rcases hg with ⟨rfl, rfl⟩ | ⟨rfl, rfl⟩ <;> rfl
end
section
variable {w : qcW} {Ic : qTI} {Lc : qTL} {Dc : qTD} {Rc : qTR} {Ir : qTI} {Lr : qTL} {Dr : qTD} {Rr : qTR} {a : Int32} {pc : Nat → Int64} {xc : Nat → UInt64} {pm : Nat → Int64} {xm : Nat → UInt64} {r : List Nat}
theorem qp_rg0 (b : Bool) : qp_rg 0 (qp_b1 b) := ⟨fun _ => by cases b; exact Or.inl rfl; exact Or.inr rfl, fun q => by omega⟩
theorem qp_rel {j : Nat} (hN : ∀ k, k < 32 → qc_n64 (xm k) = true) (hj : j < 6) (hl : r.length + 1 ≤ 24) (h : qp_R (1 :: r) pc xc pm xm) : qp_S w Ic Lc Dc Rc Ir Lr Dr Rr (nI (1500 + j)) a (r.length + 1) pc xc pm xm (0 :: r) := by
  obtain ⟨v1, hR⟩ := h
  obtain ⟨e1, -⟩ := v1.1 (by decide)
  obtain ⟨b0, c0, d1⟩ := mx_u hl
  have eX : fX4_step w (qc_u Ic 287 2 (nI (r.length + 1))) (qi_rr Lc 288 pc) (qi_rr Dc 289 xc) Rc (nI (1500 + j)) a = (qc_bd (fX6_take w (qc_u Ic 287 2 (nI (r.length + 1))) (qi_rr Lc 288 pc) (qi_rr Dc 289 xc) Rc) fun r15 I15 L15 D15 R15 => qc_bd (fX4_holds w I15 L15 D15 R15 (nI j) r15) fun r16 I16 L16 D16 R16 => if r16 = true then (fX4_step_b175 w I16 L16 D16 R16 (1 : Int64)) else (fX4_step_b175 w I16 L16 D16 R16 (0 : Int64))) := by
    rcases (show j = 0 ∨ j = 1 ∨ j = 2 ∨ j = 3 ∨ j = 4 ∨ j = 5 by omega) with rfl | rfl | rfl | rfl | rfl | rfl <;> rfl
  have eM : fX12_does w (qc_u Ir 291 67 (nI (r.length + 1))) (qi_rr Lr 328 pm) (qi_rr Dr 329 xm) Rr (nI (1500 + j)) a = (qc_gd (qc_inb (((qc_u Ir 291 67 (nI (r.length + 1))) 291 67) - (1 : Int32)) 32) <| qc_bd (fX12_isSo w (qc_u Ir 291 67 (nI (r.length + 1))) (qi_rr Lr 328 pm) (qi_rr Dr 329 xm) Rr (nI j) ((qi_rr Lr 328 pm) 328 (Int32.toNatClampNeg (((qc_u Ir 291 67 (nI (r.length + 1))) 291 67) - (1 : Int32))))) fun r16 I16 L16 D16 R16 => if r16 = true then (qc_gd (qc_inb (((qc_u Ir 291 67 (nI (r.length + 1))) 291 67) - (1 : Int32)) 32) <| some ((), I16, (qc_u L16 328 (Int32.toNatClampNeg (((qc_u Ir 291 67 (nI (r.length + 1))) 291 67) - (1 : Int32))) (1 : Int64)), D16, R16)) else (qc_gd (qc_inb (((qc_u Ir 291 67 (nI (r.length + 1))) 291 67) - (1 : Int32)) 32) <| some ((), I16, (qc_u L16 328 (Int32.toNatClampNeg (((qc_u Ir 291 67 (nI (r.length + 1))) 291 67) - (1 : Int32))) (0 : Int64)), D16, R16))) := by
    rcases (show j = 0 ∨ j = 1 ∨ j = 2 ∨ j = 3 ∨ j = 4 ∨ j = 5 by omega) with rfl | rfl | rfl | rfl | rfl | rfl <;> rfl
  rw [cx_take (by omega), qc_bds, cx_so, qc_bds] at eX
  simp only [qc_u_at, d1, b0, qc_gdt, c0, qi_rr_on, mx_so, qc_bds, qi_rr_u, ← e1] at eM
  have eX' : fX4_step w (qc_u Ic 287 2 (nI (r.length + 1))) (qi_rr Lc 288 pc) (qi_rr Dc 289 xc) Rc (nI (1500 + j)) a = some (0, qc_u Ic 287 2 (nI (r.length + 1)), qi_rr Lc 288 (qi_up pc r.length (qp_b1 (qp_so (nI j) (pc r.length)))), qi_rr Dc 289 xc, Rc) := by
    rw [eX]
    unfold fX4_step_b175 qp_b1
    split <;> rw [cx_lay (by omega), qc_bds]
  refine qp_mkp (u := qp_b1 (qp_so (nI j) (pc r.length))) hN rfl (by decide) hR rfl (qp_rg0 _) eX' ?_
  rw [eM]
  unfold qp_b1
  split <;> rfl
theorem qp_mmS {j k : Nat} (hN : ∀ k, k < 32 → qc_n64 (xm k) = true) (hj : j = 5 ∨ j = 6) (hk : 1 ≤ k ∧ k ≤ 4) (hl : r.length + 2 ≤ 24) (h : qp_R (k :: k :: r) pc xc pm xm) : qp_S w Ic Lc Dc Rc Ir Lr Dr Rr (nI (1700 + 10 * j + k)) a (r.length + 2) pc xc pm xm (k :: r) := by
  obtain ⟨v1, v2, hR⟩ := h
  have v1 : qp_V k (pc (r.length + 1)) (xc (r.length + 1)) (pm (r.length + 1)) (xm (r.length + 1)) := v1
  have eM : fX12_does w (qc_u Ir 291 67 (nI (r.length + 2))) (qi_rr Lr 328 pm) (qi_rr Dr 329 xm) Rr (nI (1700 + 10 * j + k)) a = (qc_bd (fX12_functions w (qc_u Ir 291 67 (nI (r.length + 2))) (qi_rr Lr 328 pm) (qi_rr Dr 329 xm) Rr (nI (170 + j)) (nI k)) fun r I L D R => some ((), I, L, D, R)) := by
    rcases hj with rfl | rfl <;> rcases (show k = 1 ∨ k = 2 ∨ k = 3 ∨ k = 4 by omega) with rfl | rfl | rfl | rfl <;> rfl
  have hji : (nI j = 5 ∨ nI j = 6) ∧ ((nI j = 5 ∧ nI (170 + j) = 175) ∨ (nI j = 6 ∧ nI (170 + j) = 176)) := by rcases hj with rfl | rfl <;> decide
  by_cases hk2 : k ≤ 2
  · have hk12 : k = 1 ∨ k = 2 := by omega
    have hki : nI k = 1 ∨ nI k = 2 := by rcases hk12 with rfl | rfl; exact Or.inl rfl; exact Or.inr rfl
    have eX : fX4_step w (qc_u Ic 287 2 (nI (r.length + 2))) (qi_rr Lc 288 pc) (qi_rr Dc 289 xc) Rc (nI (1700 + 10 * j + k)) a = (qc_bd (fX4_applyToWholes w (qc_u Ic 287 2 (nI (r.length + 2))) (qi_rr Lc 288 pc) (qi_rr Dc 289 xc) Rc (nI j) (nI k)) fun r25 I25 L25 D25 R25 => some (0, I25, L25, D25, R25)) := by
      rcases hj with rfl | rfl <;> rcases hk12 with rfl | rfl <;> rfl
    obtain ⟨e1, g1⟩ := v1.1 hk2
    obtain ⟨e2, g2⟩ := v2.1 hk2
    rw [cx_mm hl hji.1, qc_bds] at eX
    rw [mx_mm hl hji.2 hki, ← e1, ← e2, qc_bds] at eM
    refine qp_mkp hN rfl hk2 hR rfl ⟨fun q => by omega, fun q => ?_⟩ eX eM
    unfold qp_mm
    split
    · split
      · exact g1.2 q
      · exact g2.2 q
    · split
      · exact g1.2 q
      · exact g2.2 q
  · have hk34 : k = 3 ∨ k = 4 := by omega
    have hki : nI k = 3 ∨ nI k = 4 := by rcases hk34 with rfl | rfl; exact Or.inl rfl; exact Or.inr rfl
    have eX : fX4_step w (qc_u Ic 287 2 (nI (r.length + 2))) (qi_rr Lc 288 pc) (qi_rr Dc 289 xc) Rc (nI (1700 + 10 * j + k)) a = (qc_bd (fX4_applyToReals w (qc_u Ic 287 2 (nI (r.length + 2))) (qi_rr Lc 288 pc) (qi_rr Dc 289 xc) Rc (nI j)) fun r25 I25 L25 D25 R25 => some (0, I25, L25, D25, R25)) := by
      rcases hj with rfl | rfl <;> rcases hk34 with rfl | rfl <;> rfl
    obtain ⟨e1, n1, f1⟩ := v1.2 (by omega)
    obtain ⟨e2, n2, f2⟩ := v2.2 (by omega)
    rw [cx_mx hl hji.1 n2 n1, qc_bds] at eX
    rw [mx_mx hl hji.2 hki (by rw [← e2]; exact n2) (by rw [← e1]; exact n1), ← e1, ← e2, qc_bds] at eM
    have hcs : ∀ (P : UInt64 → Prop), P (xc r.length) → P (xc (r.length + 1)) → P (qp_mx (nI j) (xc r.length) (xc (r.length + 1))) := by
      intro P p1 p2
      unfold qp_mx qf_less qf_more
      repeat' split
      all_goals assumption
    exact qp_mkx hN rfl (by omega) hR rfl (hcs qf_N n2 n1) (fun q => hcs qf_isF (f2 q) (f1 q)) eX eM
theorem qp_deny (hN : ∀ k, k < 32 → qc_n64 (xm k) = true) (hl : r.length + 1 ≤ 24) (h : qp_R (0 :: r) pc xc pm xm) : qp_S w Ic Lc Dc Rc Ir Lr Dr Rr 1810 a (r.length + 1) pc xc pm xm (0 :: r) := by
  obtain ⟨v1, hR⟩ := h
  obtain ⟨e1, g1⟩ := v1.1 (by decide)
  obtain ⟨b0, c0, d1⟩ := mx_u hl
  have eX : fX4_step w (qc_u Ic 287 2 (nI (r.length + 1))) (qi_rr Lc 288 pc) (qi_rr Dc 289 xc) Rc 1810 a = (qc_bd (qc_bd (fX6_take w (qc_u Ic 287 2 (nI (r.length + 1))) (qi_rr Lc 288 pc) (qi_rr Dc 289 xc) Rc) fun r8 I8 L8 D8 R8 => if (lg_cmp r8 (0 : Int64)) = 0 then (fX4_jump_b28 w I8 L8 D8 R8 (1 : Int64)) else (fX4_jump_b28 w I8 L8 D8 R8 (0 : Int64))) fun r3 I3 L3 D3 R3 => some ((0 : Int32), I3, L3, D3, R3)) := rfl
  have eM : fX12_does w (qc_u Ir 291 67 (nI (r.length + 1))) (qi_rr Lr 328 pm) (qi_rr Dr 329 xm) Rr 1810 a = (qc_bd (qc_gd (qc_inb (((qc_u Ir 291 67 (nI (r.length + 1))) 291 67) - (1 : Int32)) 32) <| qc_gd (qc_inb (((qc_u Ir 291 67 (nI (r.length + 1))) 291 67) - (1 : Int32)) 32) <| some ((), (qc_u Ir 291 67 (nI (r.length + 1))), (qc_u (qi_rr Lr 328 pm) 328 (Int32.toNatClampNeg (((qc_u Ir 291 67 (nI (r.length + 1))) 291 67) - (1 : Int32))) ((1 : Int64) - ((qi_rr Lr 328 pm) 328 (Int32.toNatClampNeg (((qc_u Ir 291 67 (nI (r.length + 1))) 291 67) - (1 : Int32)))))), (qi_rr Dr 329 xm), Rr)) fun r12 I12 L12 D12 R12 => some ((), I12, L12, D12, R12)) := rfl
  rw [cx_take (by omega), qc_bds] at eX
  simp only [qc_u_at, d1, b0, qc_gdt, c0, qi_rr_on, qc_bds, qi_rr_u, ← e1] at eM
  have eX' : fX4_step w (qc_u Ic 287 2 (nI (r.length + 1))) (qi_rr Lc 288 pc) (qi_rr Dc 289 xc) Rc 1810 a = some (0, qc_u Ic 287 2 (nI (r.length + 1)), qi_rr Lc 288 (qi_up pc r.length (1 - pc r.length)), qi_rr Dc 289 xc, Rc) := by
    rw [eX]
    unfold fX4_jump_b28
    simp only [lg_cmp_eq]
    rcases g1.1 rfl with q | q
    · rw [if_pos q, cx_lay (by omega), qc_bds, qc_bds, q]
      rfl
    · rw [if_neg (by rw [q]; decide), cx_lay (by omega), qc_bds, qc_bds, q]
      rfl
  refine qp_mkp (u := 1 - pc r.length) hN rfl (by decide) hR rfl ⟨fun _ => ?_, fun q => by omega⟩ eX' eM
  rcases g1.1 rfl with q | q
  · rw [q]
    exact Or.inr rfl
  · rw [q]
    exact Or.inl rfl
/-- a whole number laid -/
theorem qp_lay1 {k : Nat} (hN : ∀ k, k < 32 → qc_n64 (xm k) = true) (hl : r.length + 1 ≤ 24) (h : qp_R r pc xc pm xm) (hk : k = 1 ∨ (k = 0 ∧ (a = 0 ∨ a = 1))) : qp_S w Ic Lc Dc Rc Ir Lr Dr Rr 1 a r.length pc xc pm xm (k :: r) := by
  have eX : fX4_step w (qc_u Ic 287 2 (nI r.length)) (qi_rr Lc 288 pc) (qi_rr Dc 289 xc) Rc 1 a = (qc_bd (qc_bd (fX6_lay w (qc_u Ic 287 2 (nI r.length)) (qi_rr Lc 288 pc) (qi_rr Dc 289 xc) Rc (Int32.toInt64 a)) fun r1 I1 L1 D1 R1 => some ((), I1, L1, D1, R1)) fun r21 I21 L21 D21 R21 => some ((0 : Int32), I21, L21, D21, R21)) := rfl
  have eM : fX12_does w (qc_u Ir 291 67 (nI r.length)) (qi_rr Lr 328 pm) (qi_rr Dr 329 xm) Rr 1 a = (qc_bd (fX12_lays w (qc_u Ir 291 67 (nI r.length)) (qi_rr Lr 328 pm) (qi_rr Dr 329 xm) Rr (Int32.toInt64 a)) fun r1 I1 L1 D1 R1 => some ((), I1, L1, D1, R1)) := rfl
  rw [cx_lay (by omega), qc_bds, qc_bds] at eX
  unfold fX12_lays at eM
  rw [qc_u_at, qi_inbN (show r.length < 32 by omega) (by decide), qc_gdt, qc_bds, nI_clamp (by omega), qc_uu, qi_s1, qi_rr_u] at eM
  refine qp_mkp hN rfl (by omega) h rfl ⟨fun q => ?_, fun q => ?_⟩ eX eM
  · rcases hk with q2 | ⟨-, q2⟩
    · omega
    · rcases q2 with rfl | rfl
      · exact Or.inl rfl
      · exact Or.inr rfl
  · rw [qi_tt]
theorem qp_lay3 (hN : ∀ k, k < 32 → qc_n64 (xm k) = true) (hl : r.length + 1 ≤ 24) (h : qp_R r pc xc pm xm) (ho : Ic 286 4 = Ir 291 71) : qp_S w Ic Lc Dc Rc Ir Lr Dr Rr 3 a r.length pc xc pm xm (1 :: r) := by
  have eX : fX4_step w (qc_u Ic 287 2 (nI r.length)) (qi_rr Lc 288 pc) (qi_rr Dc 289 xc) Rc 3 a = (qc_bd (qc_bd (fX6_lay w (qc_u Ic 287 2 (nI r.length)) (qi_rr Lc 288 pc) (qi_rr Dc 289 xc) Rc (Int32.toInt64 ((qc_u Ic 287 2 (nI r.length)) 286 4))) fun r1 I1 L1 D1 R1 => some ((), I1, L1, D1, R1)) fun r21 I21 L21 D21 R21 => some ((0 : Int32), I21, L21, D21, R21)) := rfl
  have eM : fX12_does w (qc_u Ir 291 67 (nI r.length)) (qi_rr Lr 328 pm) (qi_rr Dr 329 xm) Rr 3 a = (qc_bd (fX12_lays w (qc_u Ir 291 67 (nI r.length)) (qi_rr Lr 328 pm) (qi_rr Dr 329 xm) Rr (Int32.toInt64 ((qc_u Ir 291 67 (nI r.length)) 291 71))) fun r1 I1 L1 D1 R1 => some ((), I1, L1, D1, R1)) := rfl
  rw [cx_lay (by omega), qc_bds, qc_bds, qc_u_off _ _ (show 286 ≠ 287 by decide), ho] at eX
  unfold fX12_lays at eM
  rw [qc_u_at, qi_inbN (show r.length < 32 by omega) (by decide), qc_gdt, qc_bds, nI_clamp (by omega), qc_uu, qi_s1, qi_rr_u, qc_u_ne _ _ (Or.inr (show 71 ≠ 67 by decide))] at eM
  exact qp_mkp hN rfl (by decide) h rfl ⟨fun q => by omega, fun q => by rw [qi_tt]⟩ eX eM
end
