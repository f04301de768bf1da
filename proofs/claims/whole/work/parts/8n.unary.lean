/-! acts on one value -/
section
variable {w : qcW} {I : qTI} {L : qTL} {D : qTD} {R : qTR} {p : Nat → Int64} {x : Nat → UInt64} {n : Nat} {g k : Int32}
theorem mx_u (hn : n + 1 ≤ 24) : qc_inb (nI n) 32 = true ∧ (nI n).toNatClampNeg = n ∧ nI (n + 1) - 1 = nI n := ⟨qi_inbN (by omega) (by decide), nI_clamp (by omega), qi_d1 n⟩
theorem cx_tu (hn : n + 1 ≤ 24) (hk : k = 1 ∨ k = 2) : fX4_turn w (qc_u I 287 2 (nI (n + 1))) (qi_rr L 288 p) D R g k = some ((), qc_u I 287 2 (nI (n + 1)), qi_rr L 288 (qi_up p n (qp_nw k (if g = 12 then -(p n) else p n ^^^ -1))), D, R) := by
  have hk3 : k < 3 := by rcases hk with rfl | rfl <;> decide
  unfold fX4_turn fX4_turn_b45 fX4_turn_b65 qp_nw
  rw [if_pos hk3, cx_take (by omega), qc_bds]
  simp only [cx_lay (w := w) (I := I) (L := L) (D := D) (R := R) (p := p) (n := n) (by omega), qc_bds]
  by_cases h1 : g = 12 <;> by_cases h2 : k = 1 <;> simp only [h1, h2, if_true, if_false]
theorem cx_tux (hn : n + 1 ≤ 24) (hk : k = 3 ∨ k = 4) : fX4_turn w (qc_u I 287 2 (nI (n + 1))) L (qi_rr D 289 x) R g k = some ((), qc_u I 287 2 (nI (n + 1)), L, qi_rr D 289 (qi_up x n (FP.dneg (x n))), R) := by
  have hk3 : ¬ k < 3 := by rcases hk with rfl | rfl <;> decide
  unfold fX4_turn
  rw [if_neg hk3, cx_takeR (by omega), qc_bds, cx_layR (by omega), qc_bds]
theorem mx_tu (hn : n + 1 ≤ 24) (hk : k = 1 ∨ k = 2) : fX12_turns w (qc_u I 291 67 (nI (n + 1))) (qi_rr L 328 p) D R 12 k = some ((), qc_u I 291 67 (nI (n + 1)), qi_rr L 328 (qi_up p n (qp_nw k (-(p n)))), D, R) := by
  obtain ⟨b0, c0, d1⟩ := mx_u hn
  unfold fX12_turns qp_nw
  simp only [qc_u_at, d1, b0, qc_gdt, c0, qi_rr_on, qi_rr_u]
  rcases hk with rfl | rfl <;> rfl
theorem mx_tn (hn : n + 1 ≤ 24) : fX12_turns w (qc_u I 291 67 (nI (n + 1))) (qi_rr L 328 p) D R 13 k = some ((), qc_u I 291 67 (nI (n + 1)), qi_rr L 328 (qi_up p n (p n ^^^ -1)), D, R) := by
  obtain ⟨b0, c0, d1⟩ := mx_u hn
  unfold fX12_turns
  simp only [qc_u_at, d1, b0, qc_gdt, c0, qi_rr_on, qi_rr_u]
  rfl
theorem mx_tux (hn : n + 1 ≤ 24) (hk : k = 3 ∨ k = 4) : fX12_turns w (qc_u I 291 67 (nI (n + 1))) L (qi_rr D 329 x) R 12 k = some ((), qc_u I 291 67 (nI (n + 1)), L, qi_rr D 329 (qi_up x n (FP.dneg (x n))), R) := by
  obtain ⟨b0, c0, d1⟩ := mx_u hn
  unfold fX12_turns
  simp only [qc_u_at, d1, b0, qc_gdt, c0, qi_rr_on, qi_rr_u]
  rcases hk with rfl | rfl <;> rfl
def qp_ab (k : Int32) (v : Int64) : Int64 := if 0 ≤ lg_cmp v 0 then v else qp_nw k (-v)
theorem cx_ab (hn : n + 1 ≤ 24) (hr : k = 1 → p n = (p n).toInt32.toInt64) : fX4_applyToWholes w (qc_u I 287 2 (nI (n + 1))) (qi_rr L 288 p) D R 0 k = some ((), qc_u I 287 2 (nI (n + 1)), qi_rr L 288 (qi_up p n (qp_ab k (p n))), D, R) := by
  unfold fX4_applyToWholes fX4_applyToWholes_b24 fX4_applyToWholes_b44 qp_ab qp_nw
  rw [cx_take (by omega), qc_bds, if_pos rfl]
  simp only [cx_lay (w := w) (I := I) (L := L) (D := D) (R := R) (p := p) (n := n) (by omega), qc_bds]
  by_cases h1 : 0 ≤ lg_cmp (p n) 0
  · by_cases h2 : k = 1
    · simp only [h1, h2, if_true]
      rw [← hr h2]
    · simp only [h1, h2, if_true, if_false]
  · by_cases h2 : k = 1 <;> simp only [h1, h2, if_true, if_false]
theorem mx_ab (hn : n + 1 ≤ 24) (hk : k = 1 ∨ k = 2) : fX12_functions w (qc_u I 291 67 (nI (n + 1))) (qi_rr L 328 p) D R 170 k = some ((), qc_u I 291 67 (nI (n + 1)), qi_rr L 328 (qi_up p n (qp_ab k (p n))), D, R) := by
  obtain ⟨b0, c0, d1⟩ := mx_u hn
  have hk3 : ¬ (3 : Int32) ≤ k := by rcases hk with rfl | rfl <;> decide
  unfold fX12_functions qp_ab qp_nw
  rw [if_pos rfl]
  simp only [hk3, if_false, qc_u_at, d1, b0, qc_gdt, c0, qi_rr_on, qi_rr_u]
  by_cases h1 : 0 ≤ lg_cmp (p n) 0
  · simp only [h1, if_true]
  · by_cases h2 : k = 1 <;> simp only [h1, h2, if_true, if_false]
def qp_fx (j : Int32) (v : UInt64) : UInt64 := if j = 0 then (if qf_M v = true then FP.dneg v else v) else if j = 1 then qf_fl v else if j = 2 then FP.dneg (qf_fl (FP.dneg v)) else if j = 3 then qf_nr v else (if qk v = 0 then v else if qk v < 0 then 13830554455654793216 else 4607182418800017408)
theorem cx_fx (hn : n + 1 ≤ 24) {j : Int32} (hj : j = 0 ∨ j = 1 ∨ j = 2 ∨ j = 3 ∨ j = 4) (h : qf_N (x n)) : fX4_applyToReals w (qc_u I 287 2 (nI (n + 1))) L (qi_rr D 289 x) R j = some ((), qc_u I 287 2 (nI (n + 1)), L, qi_rr D 289 (qi_up x n (qp_fx j (x n))), R) := by
  unfold fX4_applyToReals qp_fx
  rw [cx_takeR (by omega), qc_bds]
  simp only [fx_magnitude h, fx_floor h, fx_floor (qf_neg_N h), fx_nearest h, fx_signOf h, qc_bds, cx_layR (w := w) (I := I) (L := L) (D := D) (R := R) (x := x) (n := n) (by omega)]
  rcases hj with rfl | rfl | rfl | rfl | rfl <;> rfl
theorem mx_fx (hn : n + 1 ≤ 24) {j o : Int32} (hj : (j = 0 ∧ o = 170) ∨ (j = 1 ∧ o = 171) ∨ (j = 2 ∧ o = 172) ∨ (j = 3 ∧ o = 173) ∨ (j = 4 ∧ o = 174)) (hk : k = 3 ∨ k = 4) (h : qf_N (x n)) : fX12_functions w (qc_u I 291 67 (nI (n + 1))) L (qi_rr D 329 x) R o k = some ((), qc_u I 291 67 (nI (n + 1)), L, qi_rr D 329 (qi_up x n (qp_fx j (x n))), R) := by
  obtain ⟨b0, c0, d1⟩ := mx_u hn
  have hk3 : (3 : Int32) ≤ k := by rcases hk with rfl | rfl <;> decide
  unfold fX12_functions qp_fx
  simp only [hk3, if_true, qc_u_at, d1, b0, qc_gdt, c0, qi_rr_on, qi_rr_u, fm_without h, fm_floor h, fm_floor (qf_neg_N h), fm_nearest h, qc_bds, qk_le h qf_N0, qk_ge h qf_N0, qk_0]
  rcases hj with ⟨rfl, rfl⟩ | ⟨rfl, rfl⟩ | ⟨rfl, rfl⟩ | ⟨rfl, rfl⟩ | ⟨rfl, rfl⟩
  · rfl
  · rfl
  · rfl
  · rfl
  · rcases Int.lt_trichotomy (qk (x n)) 0 with q | q | q
    · simp only [show qk (x n) ≤ 0 by omega, show ¬ 0 ≤ qk (x n) by omega, show ¬ qk (x n) = 0 by omega, q, if_true, if_false]
      rfl
    · simp only [show qk (x n) ≤ 0 by omega, show 0 ≤ qk (x n) by omega, q, if_true]
      rfl
    · simp only [show ¬ qk (x n) ≤ 0 by omega, show ¬ qk (x n) < 0 by omega, show ¬ qk (x n) = 0 by omega, if_false]
      rfl
theorem qf_fl_N {v : UInt64} (h : qf_N v) : qf_N (qf_fl v) := by
  unfold qf_fl
  split
  · exact h
  · split
    · rename_i h2
      have hq := qf_q52 h2
      split
      · split <;> exact (qf_int_of (by omega)).1.N
      · exact (qf_int_of (by omega)).1.N
    · exact h
theorem qf_nr_N {v : UInt64} (h : qf_N v) : qf_N (qf_nr v) := by
  unfold qf_nr
  split
  · exact h
  · split
    · rename_i h2
      have hq := qf_rn_le h2
      exact (qf_int_of (by omega)).1.N
    · exact h
theorem qp_fx_N {j : Int32} {v : UInt64} (h : qf_N v) : qf_N (qp_fx j v) := by
  unfold qp_fx
  split
  · exact qf_mag_N h
  · split
    · exact qf_fl_N h
    · split
      · exact qf_neg_N (qf_fl_N (qf_neg_N h))
      · split
        · exact qf_nr_N h
        · split
          · exact h
          · split
            · rw [qf_N_iff]; decide
            · exact qf_1N
theorem qp_fx_F {j : Int32} {v : UInt64} (h : qf_isF v) (hj : j = 0 ∨ j = 4) : qf_isF (qp_fx j v) := by
  unfold qp_fx
  rcases hj with rfl | rfl
  · rw [if_pos rfl]
    split
    · exact qf_isF_neg h
    · exact h
  · rw [if_neg (by decide), if_neg (by decide), if_neg (by decide), if_neg (by decide)]
    split
    · exact h
    · split
      · exact ⟨3212836864, by decide, by decide +kernel⟩
      · exact ⟨1065353216, by decide, by decide +kernel⟩
end
section
variable {w : qcW} {Ic : qTI} {Lc : qTL} {Dc : qTD} {Rc : qTR} {Ir : qTI} {Lr : qTL} {Dr : qTD} {Rr : qTR} {a : Int32} {pc : Nat → Int64} {xc : Nat → UInt64} {pm : Nat → Int64} {xm : Nat → UInt64} {r : List Nat}
theorem qp_neg {k : Nat} (hN : ∀ k, k < 32 → qc_n64 (xm k) = true) (hk : 1 ≤ k ∧ k ≤ 4) (hl : r.length + 1 ≤ 24) (h : qp_R (k :: r) pc xc pm xm) : qp_S w Ic Lc Dc Rc Ir Lr Dr Rr (nI (1200 + k)) a (r.length + 1) pc xc pm xm (k :: r) := by
  obtain ⟨v1, hR⟩ := h
  have eX : fX4_step w (qc_u Ic 287 2 (nI (r.length + 1))) (qi_rr Lc 288 pc) (qi_rr Dc 289 xc) Rc (nI (1200 + k)) a = (qc_bd (fX4_turn w (qc_u Ic 287 2 (nI (r.length + 1))) (qi_rr Lc 288 pc) (qi_rr Dc 289 xc) Rc 12 (nI k)) fun r25 I25 L25 D25 R25 => some (0, I25, L25, D25, R25)) := by
    rcases (show k = 1 ∨ k = 2 ∨ k = 3 ∨ k = 4 by omega) with rfl | rfl | rfl | rfl <;> rfl
  have eM : fX12_does w (qc_u Ir 291 67 (nI (r.length + 1))) (qi_rr Lr 328 pm) (qi_rr Dr 329 xm) Rr (nI (1200 + k)) a = (qc_bd (fX12_turns w (qc_u Ir 291 67 (nI (r.length + 1))) (qi_rr Lr 328 pm) (qi_rr Dr 329 xm) Rr 12 (nI k)) fun r I L D R => some ((), I, L, D, R)) := by
    rcases (show k = 1 ∨ k = 2 ∨ k = 3 ∨ k = 4 by omega) with rfl | rfl | rfl | rfl <;> rfl
  by_cases hk2 : k ≤ 2
  · have hk12 : k = 1 ∨ k = 2 := by omega
    have hki : nI k = 1 ∨ nI k = 2 := by rcases hk12 with rfl | rfl; exact Or.inl rfl; exact Or.inr rfl
    obtain ⟨e1, -⟩ := v1.1 hk2
    rw [cx_tu hl hki, qc_bds, if_pos rfl] at eX
    rw [mx_tu hl hki, ← e1, qc_bds] at eM
    exact qp_mkp hN rfl hk2 hR rfl (qp_rgn hk12 _) eX eM
  · have hki : nI k = 3 ∨ nI k = 4 := by rcases (show k = 3 ∨ k = 4 by omega) with rfl | rfl; exact Or.inl rfl; exact Or.inr rfl
    obtain ⟨e1, n1, f1⟩ := v1.2 (by omega)
    rw [cx_tux hl hki, qc_bds] at eX
    rw [mx_tux hl hki, ← e1, qc_bds] at eM
    exact qp_mkx hN rfl (by omega) hR rfl (qf_neg_N n1) (fun q => qf_isF_neg (f1 q)) eX eM
theorem qp_not {k : Nat} (hN : ∀ k, k < 32 → qc_n64 (xm k) = true) (hk : k = 1 ∨ k = 2) (hl : r.length + 1 ≤ 24) (h : qp_R (k :: r) pc xc pm xm) : qp_S w Ic Lc Dc Rc Ir Lr Dr Rr (nI (1300 + k)) a (r.length + 1) pc xc pm xm (k :: r) := by
  obtain ⟨v1, hR⟩ := h
  have eX : fX4_step w (qc_u Ic 287 2 (nI (r.length + 1))) (qi_rr Lc 288 pc) (qi_rr Dc 289 xc) Rc (nI (1300 + k)) a = (qc_bd (fX4_turn w (qc_u Ic 287 2 (nI (r.length + 1))) (qi_rr Lc 288 pc) (qi_rr Dc 289 xc) Rc 13 (nI k)) fun r25 I25 L25 D25 R25 => some (0, I25, L25, D25, R25)) := by
    rcases hk with rfl | rfl <;> rfl
  have eM : fX12_does w (qc_u Ir 291 67 (nI (r.length + 1))) (qi_rr Lr 328 pm) (qi_rr Dr 329 xm) Rr (nI (1300 + k)) a = (qc_bd (fX12_turns w (qc_u Ir 291 67 (nI (r.length + 1))) (qi_rr Lr 328 pm) (qi_rr Dr 329 xm) Rr 13 (nI k)) fun r I L D R => some ((), I, L, D, R)) := by
    rcases hk with rfl | rfl <;> rfl
  have hki : nI k = 1 ∨ nI k = 2 := by rcases hk with rfl | rfl; exact Or.inl rfl; exact Or.inr rfl
  obtain ⟨e1, g1⟩ := v1.1 (by omega)
  rw [cx_tu hl hki, qc_bds, if_neg (by decide)] at eX
  rw [mx_tn hl, ← e1, qc_bds] at eM
  refine qp_mkp hN rfl (by omega) hR ?_ (qp_rgn hk _) eX eM
  rcases hk with rfl | rfl
  · show Int32.toInt64 (Int64.toInt32 (pc r.length ^^^ -1)) = _
    obtain ⟨u, hu⟩ := qb_in (g1.2 rfl)
    rw [hu, qb_not, qi_tt]
  · rfl
theorem qp_func {j k : Nat} (hN : ∀ k, k < 32 → qc_n64 (xm k) = true) (hj : (j = 0 ∧ 1 ≤ k ∧ k ≤ 4) ∨ (1 ≤ j ∧ j ≤ 3 ∧ k = 4) ∨ (j = 4 ∧ 3 ≤ k ∧ k ≤ 4)) (hl : r.length + 1 ≤ 24) (h : qp_R (k :: r) pc xc pm xm) : qp_S w Ic Lc Dc Rc Ir Lr Dr Rr (nI (1700 + 10 * j + k)) a (r.length + 1) pc xc pm xm (k :: r) := by
  obtain ⟨v1, hR⟩ := h
  have hcs : (j = 0 ∧ k = 1) ∨ (j = 0 ∧ k = 2) ∨ (j = 0 ∧ k = 3) ∨ (j = 0 ∧ k = 4) ∨ (j = 1 ∧ k = 4) ∨ (j = 2 ∧ k = 4) ∨ (j = 3 ∧ k = 4) ∨ (j = 4 ∧ k = 3) ∨ (j = 4 ∧ k = 4) := by omega
  have eM : fX12_does w (qc_u Ir 291 67 (nI (r.length + 1))) (qi_rr Lr 328 pm) (qi_rr Dr 329 xm) Rr (nI (1700 + 10 * j + k)) a = (qc_bd (fX12_functions w (qc_u Ir 291 67 (nI (r.length + 1))) (qi_rr Lr 328 pm) (qi_rr Dr 329 xm) Rr (nI (170 + j)) (nI k)) fun r I L D R => some ((), I, L, D, R)) := by
    rcases hcs with ⟨rfl, rfl⟩ | ⟨rfl, rfl⟩ | ⟨rfl, rfl⟩ | ⟨rfl, rfl⟩ | ⟨rfl, rfl⟩ | ⟨rfl, rfl⟩ | ⟨rfl, rfl⟩ | ⟨rfl, rfl⟩ | ⟨rfl, rfl⟩ <;> rfl
  by_cases hk2 : k ≤ 2
  · have hk12 : k = 1 ∨ k = 2 := by omega
    have hj0 : j = 0 := by omega
    subst hj0
    have hki : nI k = 1 ∨ nI k = 2 := by rcases hk12 with rfl | rfl; exact Or.inl rfl; exact Or.inr rfl
    have eX : fX4_step w (qc_u Ic 287 2 (nI (r.length + 1))) (qi_rr Lc 288 pc) (qi_rr Dc 289 xc) Rc (nI (1700 + 10 * 0 + k)) a = (qc_bd (fX4_applyToWholes w (qc_u Ic 287 2 (nI (r.length + 1))) (qi_rr Lc 288 pc) (qi_rr Dc 289 xc) Rc 0 (nI k)) fun r25 I25 L25 D25 R25 => some (0, I25, L25, D25, R25)) := by
      rcases hk12 with rfl | rfl <;> rfl
    obtain ⟨e1, g1⟩ := v1.1 hk2
    have hr1 : nI k = 1 → pc r.length = (pc r.length).toInt32.toInt64 := fun q => g1.2 (by rcases hk12 with rfl | rfl; rfl; exact absurd q (by decide))
    rw [cx_ab hl hr1, qc_bds] at eX
    rw [show nI (170 + 0) = (170 : Int32) from rfl, mx_ab hl hki, ← e1, qc_bds] at eM
    refine qp_mkp hN rfl hk2 hR rfl ⟨fun q => by omega, fun q => ?_⟩ eX eM
    subst q
    unfold qp_ab
    split
    · exact g1.2 rfl
    · exact (qp_rgn (k := 1) (Or.inl rfl) _).2 rfl
  · have hki : nI k = 3 ∨ nI k = 4 := by rcases (show k = 3 ∨ k = 4 by omega) with rfl | rfl; exact Or.inl rfl; exact Or.inr rfl
    have eX : fX4_step w (qc_u Ic 287 2 (nI (r.length + 1))) (qi_rr Lc 288 pc) (qi_rr Dc 289 xc) Rc (nI (1700 + 10 * j + k)) a = (qc_bd (fX4_applyToReals w (qc_u Ic 287 2 (nI (r.length + 1))) (qi_rr Lc 288 pc) (qi_rr Dc 289 xc) Rc (nI j)) fun r25 I25 L25 D25 R25 => some (0, I25, L25, D25, R25)) := by
      rcases hcs with ⟨rfl, rfl⟩ | ⟨rfl, rfl⟩ | ⟨rfl, rfl⟩ | ⟨rfl, rfl⟩ | ⟨rfl, rfl⟩ | ⟨rfl, rfl⟩ | ⟨rfl, rfl⟩ | ⟨rfl, rfl⟩ | ⟨rfl, rfl⟩
      · omega
      · omega
      all_goals rfl
    obtain ⟨e1, n1, f1⟩ := v1.2 (by omega)
    have hji : (nI j = 0 ∨ nI j = 1 ∨ nI j = 2 ∨ nI j = 3 ∨ nI j = 4) ∧ ((nI j = 0 ∧ nI (170 + j) = 170) ∨ (nI j = 1 ∧ nI (170 + j) = 171) ∨ (nI j = 2 ∧ nI (170 + j) = 172) ∨ (nI j = 3 ∧ nI (170 + j) = 173) ∨ (nI j = 4 ∧ nI (170 + j) = 174)) := by
      rcases (show j = 0 ∨ j = 1 ∨ j = 2 ∨ j = 3 ∨ j = 4 by omega) with rfl | rfl | rfl | rfl | rfl <;> decide
    rw [cx_fx hl hji.1 n1, qc_bds] at eX
    rw [mx_fx hl hji.2 hki (by rw [← e1]; exact n1), ← e1, qc_bds] at eM
    refine qp_mkx hN rfl (by omega) hR rfl (qp_fx_N n1) (fun q => ?_) eX eM
    exact qp_fx_F (f1 q) (by rcases (show j = 0 ∨ j = 4 by omega) with rfl | rfl; exact Or.inl rfl; exact Or.inr rfl)
end
