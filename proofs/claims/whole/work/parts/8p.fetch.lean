/-! conversions, reals laid, cells fetched -/
theorem qf_l2f_N (v : Int64) : qf_N32 (FP.l2f v) := FP.Core.FFin.ne_nan (FP.Core.l2f_fin v)
theorem qf_l2d_N (v : Int64) : qf_N (FP.l2d v) := FP.Core.DFin.ne_nan (FP.Core.l2d_fin v)
section
variable {w : qcW} {I : qTI} {L : qTL} {D : qTD} {R : qTR} {p : Nat → Int64} {x : Nat → UInt64} {n : Nat} {f k : Int32}
theorem cx_cw (hn : n + 1 ≤ 24) (hf : f = 1 ∨ f = 2) (hk : k = 1 ∨ k = 2) : fX4_convert w (qc_u I 287 2 (nI (n + 1))) (qi_rr L 288 p) D R f k = some ((), qc_u I 287 2 (nI (n + 1)), qi_rr L 288 (qi_up p n (qp_nw k (p n))), D, R) := by
  unfold fX4_convert fX4_convertWhole fX4_convertWhole_b51 qp_nw
  simp only [cx_take (w := w) (I := I) (L := L) (D := D) (R := R) (p := p) (n := n) (by omega), qc_bds, cx_lay (w := w) (I := I) (L := L) (D := D) (R := R) (p := p) (n := n) (by omega)]
  rcases hf with rfl | rfl <;> rcases hk with rfl | rfl <;> rfl
theorem cx_cwx (hn : n + 1 ≤ 24) (hf : f = 1 ∨ f = 2) (hk : k = 3 ∨ k = 4) : fX4_convert w (qc_u I 287 2 (nI (n + 1))) (qi_rr L 288 p) (qi_rr D 289 x) R f k = some ((), qc_u I 287 2 (nI (n + 1)), qi_rr L 288 p, qi_rr D 289 (qi_up x n (if k = 3 then FP.f2d (FP.l2f (p n)) else FP.l2d (p n))), R) := by
  unfold fX4_convert fX4_convertWhole fX4_convertWhole_b51
  simp only [cx_take (w := w) (I := I) (L := L) (D := qi_rr D 289 x) (R := R) (p := p) (n := n) (by omega), qc_bds, cx_layR (w := w) (I := I) (L := qi_rr L 288 p) (D := D) (R := R) (x := x) (n := n) (by omega), (qf_n64 _).mpr (qf_f2d_N (qf_l2f_N (p n))), qc_gdt]
  rcases hf with rfl | rfl <;> rcases hk with rfl | rfl <;> rfl
theorem cx_cr (hn : n + 1 ≤ 24) (hf : f = 3 ∨ f = 4) (hk : k = 1 ∨ k = 2) : fX4_convert w (qc_u I 287 2 (nI (n + 1))) (qi_rr L 288 p) (qi_rr D 289 x) R f k = some ((), qc_u I 287 2 (nI (n + 1)), qi_rr L 288 (qi_up p n (if k = 1 then Int32.toInt64 (FP.d2i (x n)) else FP.d2l (x n))), qi_rr D 289 x, R) := by
  unfold fX4_convert fX4_convertReal fX4_convertReal_b51
  simp only [cx_takeR (w := w) (I := I) (L := qi_rr L 288 p) (D := D) (R := R) (x := x) (n := n) (by omega), qc_bds, cx_lay (w := w) (I := I) (L := L) (D := qi_rr D 289 x) (R := R) (p := p) (n := n) (by omega)]
  rcases hf with rfl | rfl <;> rcases hk with rfl | rfl <;> rfl
theorem cx_crx (hn : n + 1 ≤ 24) (hf : f = 3 ∨ f = 4) (hk : k = 3 ∨ k = 4) (h : qf_N (x n)) : fX4_convert w (qc_u I 287 2 (nI (n + 1))) L (qi_rr D 289 x) R f k = some ((), qc_u I 287 2 (nI (n + 1)), L, qi_rr D 289 (qi_up x n (if k = 3 then FP.f2d (FP.d2f (x n)) else x n)), R) := by
  unfold fX4_convert fX4_convertReal fX4_convertReal_b51
  simp only [cx_takeR (w := w) (I := I) (L := L) (D := D) (R := R) (x := x) (n := n) (by omega), qc_bds, cx_layR (w := w) (I := I) (L := L) (D := D) (R := R) (x := x) (n := n) (by omega), (qf_n32 _).mpr (qf_d2f_N h), (qf_n64 _).mpr (qf_f2d_N (qf_d2f_N h)), qc_gdt]
  rcases hf with rfl | rfl <;> rcases hk with rfl | rfl <;> rfl
theorem mx_cw (hn : n + 1 ≤ 24) (hf : f = 1 ∨ f = 2) (hk : k = 1 ∨ k = 2) : fX12_converts w (qc_u I 291 67 (nI (n + 1))) (qi_rr L 328 p) D R f k = some ((), qc_u I 291 67 (nI (n + 1)), qi_rr L 328 (qi_up p n (qp_nw k (p n))), D, R) := by
  obtain ⟨b0, c0, d1⟩ := mx_u hn
  unfold fX12_converts qp_nw
  simp only [qc_u_at, d1, b0, qc_gdt, c0, qi_rr_on, qi_rr_u]
  rcases hf with rfl | rfl <;> rcases hk with rfl | rfl <;> rfl
theorem mx_cwx (hn : n + 1 ≤ 24) (hf : f = 1 ∨ f = 2) (hk : k = 3 ∨ k = 4) : fX12_converts w (qc_u I 291 67 (nI (n + 1))) (qi_rr L 328 p) (qi_rr D 329 x) R f k = some ((), qc_u I 291 67 (nI (n + 1)), qi_rr L 328 p, qi_rr D 329 (qi_up x n (if k = 3 then FP.f2d (FP.l2f (p n)) else FP.l2d (p n))), R) := by
  obtain ⟨b0, c0, d1⟩ := mx_u hn
  unfold fX12_converts fX12_converts_b105
  simp only [qc_u_at, d1, b0, qc_gdt, c0, qi_rr_on, qi_rr_u, (qf_n64 _).mpr (qf_f2d_N (qf_l2f_N (p n)))]
  rcases hf with rfl | rfl <;> rcases hk with rfl | rfl <;> rfl
theorem mx_cr (hn : n + 1 ≤ 24) (hf : f = 3 ∨ f = 4) (hk : k = 1 ∨ k = 2) : fX12_converts w (qc_u I 291 67 (nI (n + 1))) (qi_rr L 328 p) (qi_rr D 329 x) R f k = some ((), qc_u I 291 67 (nI (n + 1)), qi_rr L 328 (qi_up p n (if k = 1 then Int32.toInt64 (FP.d2i (x n)) else FP.d2l (x n))), qi_rr D 329 x, R) := by
  obtain ⟨b0, c0, d1⟩ := mx_u hn
  unfold fX12_converts fX12_converts_b105
  simp only [qc_u_at, d1, b0, qc_gdt, c0, qi_rr_on, qi_rr_u]
  rcases hf with rfl | rfl <;> rcases hk with rfl | rfl <;> rfl
theorem mx_crx (hn : n + 1 ≤ 24) (hf : f = 3 ∨ f = 4) (hk : k = 3 ∨ k = 4) (h : qf_N (x n)) : fX12_converts w (qc_u I 291 67 (nI (n + 1))) L (qi_rr D 329 x) R f k = some ((), qc_u I 291 67 (nI (n + 1)), L, qi_rr D 329 (qi_up x n (if k = 3 then FP.f2d (FP.d2f (x n)) else x n)), R) := by
  obtain ⟨b0, c0, d1⟩ := mx_u hn
  unfold fX12_converts fX12_converts_b105
  simp only [qc_u_at, d1, b0, qc_gdt, c0, qi_rr_on, qi_rr_u, (qf_n32 _).mpr (qf_d2f_N h), (qf_n64 _).mpr (qf_f2d_N (qf_d2f_N h))]
  rcases hf with rfl | rfl <;> rcases hk with rfl | rfl <;> rfl
def qp_ct (k : Int32) (v : Int64) : Int64 := if k = 1 then Int32.toInt64 (Int8.toInt32 (Int32.toInt8 (Int64.toInt32 v))) else if k = 2 then Int32.toInt64 (Int16.toInt32 (Int32.toInt16 (Int64.toInt32 v))) else Int32.toInt64 (UInt32.toInt32 (Int32.toUInt32 (Int64.toInt32 v) % 65536))
theorem cx_ct (hn : n + 1 ≤ 24) : fX4_convert w (qc_u I 287 2 (nI (n + 1))) (qi_rr L 288 p) D R 5 k = some ((), qc_u I 287 2 (nI (n + 1)), qi_rr L 288 (qi_up p n (qp_ct k (p n))), D, R) := by
  unfold fX4_convert fX4_convert_b43 qp_ct
  rw [if_pos rfl]
  simp only [cx_take (w := w) (I := I) (L := L) (D := D) (R := R) (p := p) (n := n) (by omega), qc_bds, cx_lay (w := w) (I := I) (L := L) (D := D) (R := R) (p := p) (n := n) (by omega)]
  by_cases h1 : k = 1
  · simp only [h1, if_true]
  · have h21 : ¬ (2 : Int32) = 1 := by decide
    by_cases h2 : k = 2
    · simp only [h2, h21, if_true, if_false]
    · simp only [h1, h2, if_false]
theorem mx_ct (hn : n + 1 ≤ 24) : fX12_converts w (qc_u I 291 67 (nI (n + 1))) (qi_rr L 328 p) D R 5 k = some ((), qc_u I 291 67 (nI (n + 1)), qi_rr L 328 (qi_up p n (qp_ct k (p n))), D, R) := by
  obtain ⟨b0, c0, d1⟩ := mx_u hn
  unfold fX12_converts qp_ct
  rw [if_pos rfl]
  simp only [qc_u_at, d1, b0, qc_gdt, c0, qi_rr_on, qi_rr_u]
  by_cases h1 : k = 1
  · simp only [h1, if_true]
  · have h21 : ¬ (2 : Int32) = 1 := by decide
    by_cases h2 : k = 2
    · simp only [h2, h21, if_true, if_false]
    · simp only [h1, h2, if_false]
end
section
variable {w : qcW} {Ic : qTI} {Lc : qTL} {Dc : qTD} {Rc : qTR} {Ir : qTI} {Lr : qTL} {Dr : qTD} {Rr : qTR} {a : Int32} {pc : Nat → Int64} {xc : Nat → UInt64} {pm : Nat → Int64} {xm : Nat → UInt64} {r : List Nat}
theorem qp_conv {f k : Nat} (hN : ∀ k, k < 32 → qc_n64 (xm k) = true) (hf : 1 ≤ f ∧ f ≤ 4) (hk : 1 ≤ k ∧ k ≤ 4) (hl : r.length + 1 ≤ 24) (h : qp_R (f :: r) pc xc pm xm) : qp_S w Ic Lc Dc Rc Ir Lr Dr Rr (nI (1600 + 10 * f + k)) a (r.length + 1) pc xc pm xm (k :: r) := by
  obtain ⟨v1, hR⟩ := h
  have eX : fX4_step w (qc_u Ic 287 2 (nI (r.length + 1))) (qi_rr Lc 288 pc) (qi_rr Dc 289 xc) Rc (nI (1600 + 10 * f + k)) a = (qc_bd (fX4_convert w (qc_u Ic 287 2 (nI (r.length + 1))) (qi_rr Lc 288 pc) (qi_rr Dc 289 xc) Rc (nI f) (nI k)) fun r25 I25 L25 D25 R25 => some (0, I25, L25, D25, R25)) := by
    rcases (show f = 1 ∨ f = 2 ∨ f = 3 ∨ f = 4 by omega) with rfl | rfl | rfl | rfl <;> rcases (show k = 1 ∨ k = 2 ∨ k = 3 ∨ k = 4 by omega) with rfl | rfl | rfl | rfl <;> rfl
  have eM : fX12_does w (qc_u Ir 291 67 (nI (r.length + 1))) (qi_rr Lr 328 pm) (qi_rr Dr 329 xm) Rr (nI (1600 + 10 * f + k)) a = (qc_bd (fX12_converts w (qc_u Ir 291 67 (nI (r.length + 1))) (qi_rr Lr 328 pm) (qi_rr Dr 329 xm) Rr (nI f) (nI k)) fun r I L D R => some ((), I, L, D, R)) := by
    rcases (show f = 1 ∨ f = 2 ∨ f = 3 ∨ f = 4 by omega) with rfl | rfl | rfl | rfl <;> rcases (show k = 1 ∨ k = 2 ∨ k = 3 ∨ k = 4 by omega) with rfl | rfl | rfl | rfl <;> rfl
  by_cases hf2 : f ≤ 2
  · have hfi : nI f = 1 ∨ nI f = 2 := by rcases (show f = 1 ∨ f = 2 by omega) with rfl | rfl; exact Or.inl rfl; exact Or.inr rfl
    obtain ⟨e1, -⟩ := v1.1 hf2
    by_cases hk2 : k ≤ 2
    · have hk12 : k = 1 ∨ k = 2 := by omega
      have hki : nI k = 1 ∨ nI k = 2 := by rcases hk12 with rfl | rfl; exact Or.inl rfl; exact Or.inr rfl
      rw [cx_cw hl hfi hki, qc_bds] at eX
      rw [mx_cw hl hfi hki, ← e1, qc_bds] at eM
      exact qp_mkp hN rfl hk2 hR rfl (qp_rgn hk12 _) eX eM
    · have hki : nI k = 3 ∨ nI k = 4 := by rcases (show k = 3 ∨ k = 4 by omega) with rfl | rfl; exact Or.inl rfl; exact Or.inr rfl
      rw [cx_cwx hl hfi hki, qc_bds] at eX
      rw [mx_cwx hl hfi hki, ← e1, qc_bds] at eM
      refine qp_mkx hN rfl (by omega) hR rfl ?_ (fun q => ?_) eX eM
      · split
        · exact qf_f2d_N (qf_l2f_N _)
        · exact qf_l2d_N _
      · subst q
        rw [if_pos (show nI 3 = (3 : Int32) from rfl)]
        exact ⟨_, (qf_n32 _).mpr (qf_l2f_N _), rfl⟩
  · have hfi : nI f = 3 ∨ nI f = 4 := by rcases (show f = 3 ∨ f = 4 by omega) with rfl | rfl; exact Or.inl rfl; exact Or.inr rfl
    obtain ⟨e1, n1, -⟩ := v1.2 (by omega)
    by_cases hk2 : k ≤ 2
    · have hk12 : k = 1 ∨ k = 2 := by omega
      have hki : nI k = 1 ∨ nI k = 2 := by rcases hk12 with rfl | rfl; exact Or.inl rfl; exact Or.inr rfl
      rw [cx_cr hl hfi hki, qc_bds] at eX
      rw [mx_cr hl hfi hki, ← e1, qc_bds] at eM
      refine qp_mkp hN rfl hk2 hR rfl ⟨fun q => by omega, fun q => ?_⟩ eX eM
      subst q
      rw [if_pos (show nI 1 = (1 : Int32) from rfl), qi_tt]
    · have hki : nI k = 3 ∨ nI k = 4 := by rcases (show k = 3 ∨ k = 4 by omega) with rfl | rfl; exact Or.inl rfl; exact Or.inr rfl
      rw [cx_crx hl hfi hki n1, qc_bds] at eX
      rw [mx_crx hl hfi hki (by rw [← e1]; exact n1), ← e1, qc_bds] at eM
      refine qp_mkx hN rfl (by omega) hR rfl ?_ (fun q => ?_) eX eM
      · split
        · exact qf_f2d_N (qf_d2f_N n1)
        · exact n1
      · subst q
        rw [if_pos (show nI 3 = (3 : Int32) from rfl)]
        exact qf_isF_of n1
theorem qp_cast {k : Nat} (hN : ∀ k, k < 32 → qc_n64 (xm k) = true) (hk : 1 ≤ k ∧ k ≤ 3) (hl : r.length + 1 ≤ 24) (h : qp_R (1 :: r) pc xc pm xm) : qp_S w Ic Lc Dc Rc Ir Lr Dr Rr (nI (1650 + k)) a (r.length + 1) pc xc pm xm (1 :: r) := by
  obtain ⟨v1, hR⟩ := h
  obtain ⟨e1, -⟩ := v1.1 (by decide)
  have eX : fX4_step w (qc_u Ic 287 2 (nI (r.length + 1))) (qi_rr Lc 288 pc) (qi_rr Dc 289 xc) Rc (nI (1650 + k)) a = (qc_bd (fX4_convert w (qc_u Ic 287 2 (nI (r.length + 1))) (qi_rr Lc 288 pc) (qi_rr Dc 289 xc) Rc 5 (nI k)) fun r25 I25 L25 D25 R25 => some (0, I25, L25, D25, R25)) := by
    rcases (show k = 1 ∨ k = 2 ∨ k = 3 by omega) with rfl | rfl | rfl <;> rfl
  have eM : fX12_does w (qc_u Ir 291 67 (nI (r.length + 1))) (qi_rr Lr 328 pm) (qi_rr Dr 329 xm) Rr (nI (1650 + k)) a = (qc_bd (fX12_converts w (qc_u Ir 291 67 (nI (r.length + 1))) (qi_rr Lr 328 pm) (qi_rr Dr 329 xm) Rr 5 (nI k)) fun r I L D R => some ((), I, L, D, R)) := by
    rcases (show k = 1 ∨ k = 2 ∨ k = 3 by omega) with rfl | rfl | rfl <;> rfl
  rw [cx_ct hl, qc_bds] at eX
  rw [mx_ct hl, ← e1, qc_bds] at eM
  refine qp_mkp hN rfl (by decide) hR rfl ⟨fun q => by omega, fun q => ?_⟩ eX eM
  unfold qp_ct
  split
  · rw [qi_tt]
  · split <;> rw [qi_tt]
theorem qp_lay2 {q i nr : Nat} {v : UInt64} (hN : ∀ k, k < 32 → qc_n64 (xm k) = true) (hl : r.length + 1 ≤ 24) (h : qp_R r pc xc pm xm) (hio : qc_io w (Rc 286 3) 6 = true) (hia : qc_ia w (Rc (Rc 286 3) 3) 102 = true) (h338 : 338 ≤ Rc (Rc 286 3) 3) (hnr : w.2.2 (Rc (Rc 286 3) 3) = nr) (hnr1 : nr ≤ 100) (ha : a = nI i) (hi : i < nr) (hq : q < 12) (hqm : Ir 291 72 = nI q) (hv : Dc (Rc (Rc 286 3) 3) i = v) (hvm : Dr 305 (100 * q + i) = v) (hvN : qf_N v) : qp_S w Ic Lc Dc Rc Ir Lr Dr Rr 2 a r.length pc xc pm xm (4 :: r) := by
  have eX : fX4_step w (qc_u Ic 287 2 (nI r.length)) (qi_rr Lc 288 pc) (qi_rr Dc 289 xc) Rc 2 a = (qc_bd (qc_gd (qc_io w (Rc 286 3) 6) <| qc_bd (fX7_real w (qc_u Ic 287 2 (nI r.length)) (qi_rr Lc 288 pc) (qi_rr Dc 289 xc) Rc (Rc 286 3) a) fun r5 I5 L5 D5 R5 => qc_bd (fX6_layReal w I5 L5 D5 R5 r5) fun r6 I6 L6 D6 R6 => some ((), I6, L6, D6, R6)) fun r21 I21 L21 D21 R21 => some ((0 : Int32), I21, L21, D21, R21)) := rfl
  have eM : fX12_does w (qc_u Ir 291 67 (nI r.length)) (qi_rr Lr 328 pm) (qi_rr Dr 329 xm) Rr 2 a = (qc_gd (qc_inb (((100 : Int32) * ((qc_u Ir 291 67 (nI r.length)) 291 72)) + a) 1200) <| qc_bd (fX12_laysReal w (qc_u Ir 291 67 (nI r.length)) (qi_rr Lr 328 pm) (qi_rr Dr 329 xm) Rr ((qi_rr Dr 329 xm) 305 (Int32.toNatClampNeg (((100 : Int32) * ((qc_u Ir 291 67 (nI r.length)) 291 72)) + a)))) fun r1 I1 L1 D1 R1 => some ((), I1, L1, D1, R1)) := rfl
  have e100 : (100 : Int32) * nI q + nI i = nI (100 * q + i) := by rw [show (100 : Int32) = nI 100 by decide, qi_mul, nI_add]
  subst ha
  have hreal : fX7_real w (qc_u Ic 287 2 (nI r.length)) (qi_rr Lc 288 pc) (qi_rr Dc 289 xc) Rc (Rc 286 3) (nI i) = some (v, qc_u Ic 287 2 (nI r.length), qi_rr Lc 288 pc, qi_rr Dc 289 xc, Rc) := by
    unfold fX7_real
    rw [hio, qc_gdt, if_neg (nI_pos (by omega)), hia, qc_gdt, hnr, if_neg (fun z => by have := (qi_le (by omega) (by omega)).mp z; omega), qc_gdt, qi_inbN hi (by omega), qc_gdt, nI_clamp (by omega), qi_rr_off _ _ (by omega), hv]
  rw [hio, qc_gdt, hreal, qc_bds, cx_layR (by omega), qc_bds, qc_bds] at eX
  unfold fX12_laysReal at eM
  rw [qc_u_ne _ _ (Or.inr (show 72 ≠ 67 by decide)), hqm, e100, qi_inbN (show 100 * q + i < 1200 by omega) (by decide), qc_gdt, nI_clamp (by omega), qi_rr_off _ _ (show 305 ≠ 329 by decide), hvm, qc_u_at, qi_inbN (show r.length < 32 by omega) (by decide), qc_gdt, qc_bds, nI_clamp (by omega), qc_uu, qi_s1, qi_rr_u] at eM
  exact qp_mkx hN rfl (by decide) h rfl hvN (fun z => by cases z) eX eM
end
