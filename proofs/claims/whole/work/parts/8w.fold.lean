/-! one object folded into its group -/
def qg_L (hw : Int32) (cnt : Int32) (old x : Int64) : Int64 := if hw = 0 then old + 1 else if hw = 1 then old + x else if cnt = 0 then x else if hw = 2 then (if x < old then x else old) else (if old < x then x else old)
def qg_D (hw : Int32) (cnt : Int32) (old x : UInt64) : UInt64 := if hw = 1 ∨ hw = 4 then FP.dadd old x else if cnt = 0 then x else if hw = 2 then qf_less old x else qf_more old x
theorem qg_D_N {hw cnt : Int32} {old x : UInt64} (h1 : qf_N old) (h2 : qf_N x) (h : ¬ ((hw = 1 ∨ hw = 4) ∧ qf_lost 1 old x = true)) : qf_N (qg_D hw cnt old x) := by
  unfold qg_D
  by_cases q : hw = 1 ∨ hw = 4
  · rw [if_pos q]
    exact qf_join_N (op := 1) h1 h2 (by
      cases z : qf_lost 1 old x
      · rfl
      · exact absurd ⟨q, z⟩ h)
  · rw [if_neg q]
    unfold qf_less qf_more
    repeat' split
    all_goals assumption
theorem qg_D_F {hw cnt : Int32} {old x : UInt64} (h1 : qf_isF old) (h2 : qf_isF x) (h : ¬ (hw = 1 ∨ hw = 4)) : qf_isF (qg_D hw cnt old x) := by
  unfold qg_D
  rw [if_neg h]
  unfold qf_less qf_more
  repeat' split
  all_goals assumption
section
variable {w : qcW} {I : qTI} {L : qTL} {D : qTD} {R : qTR} {c g q : Nat} {hw : Int32} {x3 : Int64} {x5 : UInt64}
theorem cx_b96 (hg : g < 8) : fX3_fold_b96 w I L D R (nI g) = some (0, qc_u I 281 g (I 281 g + 1), L, D, R) := by
  unfold fX3_fold_b96
  rw [qi_inbN (show g < 16 by omega) (by decide), qc_gdt, qc_gdt, nI_clamp (by omega)]
theorem cx_summed (hh : qq_how (R 280 12) hw) : fX3_isSummed w I L D R = some (decide (hw = 1 ∨ hw = 4), I, L, D, R) := by
  unfold fX3_isSummed
  rcases hh with ⟨h1, h2⟩ | ⟨h1, h2⟩ | ⟨h1, h2⟩ | ⟨h1, h2⟩ | ⟨h1, h2⟩ <;> (rw [h1, h2]; rfl)
theorem cx_l62 (hh : qq_how (R 280 12) hw) : qc_l62 (R 280 12) = true := by
  rcases hh with ⟨h1, h2⟩ | ⟨h1, h2⟩ | ⟨h1, h2⟩ | ⟨h1, h2⟩ | ⟨h1, h2⟩ <;> (rw [h1]; rfl)
theorem cx_how {α : Type} (hh : qq_how (R 280 12) hw) (m : Nat) (k : Int32) (hm : (m = 10 ∧ k = 0) ∨ (m = 11 ∧ k = 1) ∨ (m = 27 ∧ k = 2)) (a b : α) : (if R 280 12 = m then a else b) = if hw = k then a else b := by
  rcases hm with ⟨rfl, rfl⟩ | ⟨rfl, rfl⟩ | ⟨rfl, rfl⟩ <;> rcases hh with ⟨h1, h2⟩ | ⟨h1, h2⟩ | ⟨h1, h2⟩ | ⟨h1, h2⟩ | ⟨h1, h2⟩ <;> (rw [h1, h2]; rfl)
theorem cx_foldD (hg : g < 8) (hh : qq_how (R 280 12) hw) (hc : I 280 13 = nI c) (hc3 : 3 ≤ c) (hc4 : c ≤ 4) (ho : qf_N (D 285 g)) (hx : qf_N x5) : fX3_fold_b31 w I L D R x3 x5 (nI g) =
    if (hw = 1 ∨ hw = 4) ∧ qf_lost 1 (D 285 g) x5 = true then some (5, I, L, D, R) else some (0, qc_u I 281 g (I 281 g + 1), L, qc_u D 285 g (qg_D hw (I 281 g) (D 285 g) x5), R) := by
  have hlt : (2 : Int32) < nI c := (qi_lt (a := 2) (by decide) (by omega)).mpr (by omega)
  unfold fX3_fold_b31 fX3_fold_b81 fX3_foldedReal qg_D
  rw [hc, if_pos hlt]
  simp only [cx_summed (w := w) (I := I) (L := L) (D := D) hh, qi_inbN hg (by decide), qi_inbN (show g < 16 by omega) (by decide), qc_gdt, nI_clamp (show g < 2 ^ 31 by omega), fx_isLost (1 : Int32) ho hx, qc_bds, cx_l62 hh, fx_lesser ho hx, fx_greater ho hx, cx_how hh 27 2 (Or.inr (Or.inr ⟨rfl, rfl⟩))]
  by_cases hs : hw = 1 ∨ hw = 4
  · simp only [hs, decide_true, if_true, true_and]
    cases z : qf_lost 1 (D 285 g) x5
    · have hN : qf_N (FP.dadd (D 285 g) x5) := qf_join_N (op := 1) ho hx z
      simp only [if_true, if_false, (qf_n64 _).mpr hN, qc_gdt, qc_bds, cx_b96 hg, Bool.false_eq_true]
    · simp only [if_true]
  · simp only [hs, decide_false, if_false, Bool.false_eq_true, false_and]
    by_cases h0 : I 281 g = 0
    · simp only [h0, if_true, qc_bds, cx_b96 hg]
    · simp only [h0, if_false]
      by_cases h2 : hw = 2
      · simp only [h2, if_true, qc_bds, cx_b96 hg]
      · simp only [h2, if_false, qc_bds, cx_b96 hg]
theorem cx_foldL (hg : g < 8) (hh : qq_how (R 280 12) hw) (hc : I 280 13 = nI c) (hc3 : c ≤ 2) : fX3_fold_b31 w I L D R x3 x5 (nI g) = some (0, qc_u I 281 g (I 281 g + 1), qc_u L 284 g (qg_L hw (I 281 g) (L 284 g) x3), D, R) := by
  have hlt : ¬ (2 : Int32) < nI c := fun z => by have := (qi_lt (a := 2) (by decide) (by omega)).mp z; omega
  unfold fX3_fold_b31 fX3_foldedWhole fJ9_min_f86c9 fJ9_max_f86c9 qg_L
  rw [hc, if_neg hlt]
  simp only [qi_inbN hg (by decide), qi_inbN (show g < 16 by omega) (by decide), qc_gdt, nI_clamp (show g < 2 ^ 31 by omega), qc_bds, cx_l62 hh, cx_how hh 27 2 (Or.inr (Or.inr ⟨rfl, rfl⟩)), cx_how hh 10 0 (Or.inl ⟨rfl, rfl⟩), cx_how hh 11 1 (Or.inr (Or.inl ⟨rfl, rfl⟩)), lg_cmp_lt, lg_cmp_gt]
  by_cases h0 : hw = 0
  · simp only [h0, if_true, qc_bds, cx_b96 hg]
  · simp only [h0, if_false]
    by_cases h1 : hw = 1
    · simp only [h1, if_true, qc_bds, cx_b96 hg]
    · simp only [h1, if_false]
      by_cases h2 : I 281 g = 0
      · simp only [h2, if_true, qc_bds, cx_b96 hg]
      · simp only [h2, if_false]
        by_cases h3 : hw = 2
        · simp only [h3, if_true]
          by_cases h4 : x3 < L 284 g
          · simp only [h4, if_true, qc_bds, cx_b96 hg]
          · simp only [h4, if_false, qc_bds, cx_b96 hg]
        · simp only [h3, if_false]
          by_cases h4 : L 284 g < x3
          · simp only [h4, if_true, qc_bds, cx_b96 hg]
          · simp only [h4, if_false, qc_bds, cx_b96 hg]
end
section
variable {w : qcW} {I : qTI} {L : qTL} {D : qTD} {R : qTR} {c g q : Nat} {hw : Int32} {x3 : Int64} {x5 : UInt64}
theorem mx_b389 (hg : g < 8) : fX12_folds_b389 w I L D R (nI g) = some (true, qc_u I 333 g (I 333 g + 1), L, D, R) := by
  unfold fX12_folds_b389
  rw [qi_inbN (show g < 16 by omega) (by decide), qc_gdt, qc_gdt, nI_clamp (by omega)]
theorem mx_fold (hg : g < 8) (hq : q < 12) (h72 : I 291 72 = nI q) (hhw : I 321 q = hw) (hhc : I 322 q = nI c) (hc4 : c ≤ 4) (hk : hw = 0 ∧ c = 2 ∨ hw = 1 ∧ c = 2 ∨ hw = 1 ∧ c = 4 ∨ hw = 4 ∧ c = 4 ∨ hw = 2 ∨ hw = 3) (ho : qf_N (D 337 g)) (hx : qf_N x5) : fX12_folds_b118 w I L D R x3 x5 (nI g) =
    if 3 ≤ c ∧ (hw = 1 ∨ hw = 4) ∧ qf_lost 1 (D 337 g) x5 = true then some (false, qc_u (qc_u (qc_u I 291 69 5) 291 79 3) 291 80 0, L, D, R)
    else some (true, qc_u I 333 g (I 333 g + 1), qc_u L 336 g (if 3 ≤ c ∧ (hw = 1 ∨ hw = 4) then L 336 g else qg_L hw (I 333 g) (L 336 g) x3), qc_u D 337 g (if hw = 0 ∨ hw = 1 ∧ c = 2 then D 337 g else qg_D hw (I 333 g) (D 337 g) x5), R) := by
  have i8 : qc_inb (nI g) 8 = true := qi_inbN hg (by decide)
  have i16 : qc_inb (nI g) 16 = true := qi_inbN (show g < 16 by omega) (by decide)
  have cl : (nI g).toNatClampNeg = g := nI_clamp (by omega)
  have clq : (nI q).toNatClampNeg = q := nI_clamp (by omega)
  have iq : qc_inb (nI q) 12 = true := qi_inbN hq (by decide)
  have sL : ∀ v, v = L 336 g → qc_u L 336 g v = L := fun v h => qx_self h.symm
  have sD : ∀ v, v = D 337 g → qc_u D 337 g v = D := fun v h => qx_self h.symm
  unfold fX12_folds_b118 fX12_folds_b133
  rw [i16, qc_gdt, cl, h72, iq, qc_gdt, qc_gdt, qc_gdt, qc_gdt, clq, hhw, hhc]
  rcases hk with ⟨rfl, rfl⟩ | ⟨rfl, rfl⟩ | ⟨rfl, rfl⟩ | ⟨rfl, rfl⟩ | rfl | rfl
  · rw [if_neg (show ¬ (3 ≤ 2 ∧ ((0 : Int32) = 1 ∨ (0 : Int32) = 4) ∧ qf_lost 1 (D 337 g) x5 = true) by simp), if_neg (show ¬ (3 ≤ 2 ∧ ((0 : Int32) = 1 ∨ (0 : Int32) = 4)) by simp), if_pos (Or.inl rfl), sD _ rfl]
    unfold fX12_folds_b183 qg_L
    simp only [show ¬ (0 : Int32) = 1 by decide, show ¬ (0 : Int32) = 4 by decide, show ¬ (0 : Int32) = 2 by decide, show ¬ (0 : Int32) = 3 by decide, if_false, if_true, i8, qc_gdt, cl, mx_b389 hg]
    split <;> rfl
  · rw [if_neg (show ¬ (3 ≤ 2 ∧ ((1 : Int32) = 1 ∨ (1 : Int32) = 4) ∧ qf_lost 1 (D 337 g) x5 = true) by simp), if_neg (show ¬ (3 ≤ 2 ∧ ((1 : Int32) = 1 ∨ (1 : Int32) = 4)) by simp), if_pos (Or.inr ⟨rfl, rfl⟩), sD _ rfl]
    unfold qg_L
    simp only [show ¬ (1 : Int32) = 0 by decide, show nI 2 = (2 : Int32) from rfl, if_false, if_true, i8, qc_gdt, cl, mx_b389 hg]
    split <;> rfl
  · rw [if_pos (show 3 ≤ 4 ∧ ((1 : Int32) = 1 ∨ (1 : Int32) = 4) by simp), sL _ rfl]
    unfold fX12_folds_b183 fX12_folds_b195 fX12_fails qg_D
    simp only [show ¬ (1 : Int32) = 0 by decide, show ¬ nI 4 = (2 : Int32) by decide, show ¬ (4 = 2) by decide, show (3 ≤ 4) by decide, true_or, true_and, and_false, or_false, if_false, if_true, i8, qc_gdt, cl, fm_isNone (1 : Int32) ho hx, qc_bds, ite_self]
    cases z : qf_lost 1 (D 337 g) x5
    · have hN : qf_N (FP.dadd (D 337 g) x5) := qf_join_N (op := 1) ho hx z
      simp only [Bool.false_eq_true, if_false, (qf_n64 _).mpr hN, qc_gdt, mx_b389 hg]
    · simp only [if_true]
  · rw [if_pos (show 3 ≤ 4 ∧ ((4 : Int32) = 1 ∨ (4 : Int32) = 4) by simp), sL _ rfl]
    unfold fX12_folds_b183 fX12_folds_b195 fX12_fails qg_D
    simp only [show ¬ (4 : Int32) = 0 by decide, show ¬ (4 : Int32) = 1 by decide, show ¬ (4 = 2) by decide, show (3 ≤ 4) by decide, or_true, false_or, true_and, and_false, false_and, or_false, if_false, if_true, i8, qc_gdt, cl, fm_isNone (1 : Int32) ho hx, qc_bds, ite_self]
    cases z : qf_lost 1 (D 337 g) x5
    · have hN : qf_N (FP.dadd (D 337 g) x5) := qf_join_N (op := 1) ho hx z
      simp only [Bool.false_eq_true, if_false, (qf_n64 _).mpr hN, qc_gdt, mx_b389 hg]
    · simp only [if_true]
  · have d1 : ¬ (2 : Int32) = 1 := by decide
    have d2 : ¬ (2 : Int32) = 4 := by decide
    have d0 : ¬ (2 : Int32) = 0 := by decide
    unfold fX12_folds_b183 fX12_folds_b261 fX12_folds_b272 fX12_folds_b301 qg_D qg_L
    simp only [d0, d1, d2, or_false, false_and, and_false, if_false, if_true, i8, qc_gdt, cl, fm_lesser ho hx, qc_bds, mx_b389 hg, lg_cmp_ge, show ¬ (1 : Int32) = 0 by decide]
    by_cases h0 : I 333 g = 0
    · simp only [h0, if_true]
    · simp only [h0, if_false]
      by_cases h1 : x3 < L 336 g
      · have h2 : ¬ L 336 g ≤ x3 := fun z => absurd h1 (Int64.not_lt.mpr z)
        simp only [h1, h2, if_true, if_false]
      · have h2 : L 336 g ≤ x3 := Int64.not_lt.mp h1
        simp only [h1, h2, if_true, if_false]
  · have d1 : ¬ (3 : Int32) = 1 := by decide
    have d2 : ¬ (3 : Int32) = 4 := by decide
    have d0 : ¬ (3 : Int32) = 0 := by decide
    have d3 : ¬ (3 : Int32) = 2 := by decide
    unfold fX12_folds_b183 fX12_folds_b334 fX12_folds_b345 fX12_folds_b374 qg_D qg_L
    simp only [d0, d1, d2, d3, or_false, false_and, and_false, if_false, if_true, i8, qc_gdt, cl, fm_greater ho hx, qc_bds, mx_b389 hg, lg_cmp_le, show ¬ (1 : Int32) = 0 by decide]
    by_cases h0 : I 333 g = 0
    · simp only [h0, if_true]
    · simp only [h0, if_false]
      by_cases h1 : L 336 g < x3
      · have h2 : ¬ x3 ≤ L 336 g := fun z => absurd h1 (Int64.not_lt.mpr z)
        simp only [h1, h2, if_true, if_false]
      · have h2 : x3 ≤ L 336 g := Int64.not_lt.mp h1
        simp only [h1, h2, if_true, if_false]
end
