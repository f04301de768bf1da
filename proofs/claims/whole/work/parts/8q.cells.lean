/-! cells fetched -/
theorem qi_ix {v : Int64} (h : v = v.toInt32.toInt64) {s : Nat} (hs : s ≤ 16) (h2 : 0 ≤ v.toInt ∧ v.toInt < s) : ∃ t, t < s ∧ v.toInt32 = nI t := by
  have h3 : v.toInt = v.toInt32.toInt := by
    have := congrArg Int64.toInt h
    rw [Int32.toInt_toInt64] at this
    exact this
  exact ⟨v.toInt.toNat, by omega, Int32.toInt_inj.mp (by rw [nI_toInt (by omega), ← h3]; omega)⟩
section
variable {w : qcW} {I : qTI} {L : qTL} {D : qTD} {R : qTR}
theorem fx_cellF0 {c : Nat} {l : Int32} {v : Int64} (hc : c < 10) (h : I 258 c = -1) : fX1_cellFault w I L D R (nI c) l v = some (1, I, L, D, R) := by
  simp only [fX1_cellFault, fx_isColumn, qi_inbN hc (by decide), qc_bds, if_true, qc_gdt, nI_clamp (show c < 2 ^ 31 by omega), h]
theorem fm_in64 {v c : Int64} (n : Nat) (h : c.toInt = (n : Int) - 1) : fX12_in w I L D R v 0 c = some (decide (0 ≤ v.toInt ∧ v.toInt < n), I, L, D, R) := by
  unfold fX12_in
  simp only [lg_cmp_lt, lg_cmp_gt, Int64.lt_iff_toInt_lt, h, show (0 : Int64).toInt = 0 from rfl]
  by_cases h1 : v.toInt < 0
  · rw [if_pos h1, decide_eq_false (by omega)]
  · rw [if_neg h1]
    by_cases h2 : (n : Int) - 1 < v.toInt
    · rw [if_pos h2, decide_eq_false (by omega)]
    · rw [if_neg h2, decide_eq_true (by omega)]
/-- what is wrong with a cell: its fault, for a row and its size -/
def qp_cf (lr l : Int32) (sz : Nat) (v : Int64) : Int32 := if lr = l then (if 0 ≤ v.toInt ∧ v.toInt < sz then 0 else 2) else 3
theorem fm_cellAt0 {c n : Nat} {l : Int32} {p : Nat → Int64} (hc : c < 10) (hn : n + 1 ≤ 24) (h : I 292 c = -1) : fX12_cellAt w (qc_u I 291 67 (nI (n + 1))) (qi_rr L 328 p) D R (nI c) l = some (-1, qc_u (qc_u I 291 67 (nI n)) 291 69 1, qi_rr L 328 p, D, R) := by
  obtain ⟨b0, c0, d1⟩ := mx_u hn
  unfold fX12_cellAt fX12_cellAt_b53 fX12_cellAt_b90
  simp only [qc_u_at, d1, b0, qc_gdt, qi_inbN hc (by decide), nI_clamp (show c < 2 ^ 31 by omega), qc_uu, qc_u_off _ _ (show 292 ≠ 291 by decide), h, if_true, c0]
  rfl
theorem fm_cellAt1 {c n j sz : Nat} {l : Int32} {p : Nat → Int64} (hc : c < 10) (hj : j < 11) (hn : n + 1 ≤ 24) (h : I 292 c = nI j) (hs : I 294 j = nI sz) (hsz : sz ≤ 16) (hf : I 291 69 = 0) : fX12_cellAt w (qc_u I 291 67 (nI (n + 1))) (qi_rr L 328 p) D R (nI c) l = if qp_cf (I 293 j) l sz (p n) = 0 then some (16 * nI j + (p n).toInt32, qc_u I 291 67 (nI n), qi_rr L 328 p, D, R) else some (-1, qc_u (qc_u I 291 67 (nI n)) 291 69 (qp_cf (I 293 j) l sz (p n)), qi_rr L 328 p, D, R) := by
  obtain ⟨b0, c0, d1⟩ := mx_u hn
  have hm : ¬ nI j = (-1 : Int32) := qi_nI_m1 (by omega)
  have h69 : (qc_u I 291 67 (nI n)) 291 69 = 0 := by rw [qc_u_ne _ _ (Or.inr (by decide))]; exact hf
  have h294 : (qc_u I 291 67 (nI n)) 294 j = nI sz := by rw [qc_u_off _ _ (by decide)]; exact hs
  have hin : fX12_in w (qc_u I 291 67 (nI n)) (qi_rr L 328 p) D R (p n) 0 (Int32.toInt64 (nI sz - 1)) = some (decide (0 ≤ (p n).toInt ∧ (p n).toInt < sz), qc_u I 291 67 (nI n), qi_rr L 328 p, D, R) := fm_in64 sz (qi_m1 rfl (by omega))
  unfold fX12_cellAt fX12_cellAt_b53 fX12_cellAt_b90 qp_cf
  simp only [qc_u_at, d1, b0, qc_gdt, qi_inbN hc (by decide), nI_clamp (show c < 2 ^ 31 by omega), qc_uu, qc_u_off _ _ (show 292 ≠ 291 by decide), h, hm, if_false, qi_inbN hj (by decide), nI_clamp (show j < 2 ^ 31 by omega), qc_u_off _ _ (show 293 ≠ 291 by decide), c0, qi_rr_on, h294, hin, qc_bds, h69]
  by_cases h1 : I 293 j = l
  · rw [if_pos h1, if_pos h1]
    by_cases h2 : 0 ≤ (p n).toInt ∧ (p n).toInt < sz
    · rw [decide_eq_true h2, if_pos h2]
      rfl
    · rw [decide_eq_false h2, if_neg h2]
      rfl
  · rw [if_neg h1, if_neg h1]
    rfl
end
section
variable {w : qcW} {Ic : qTI} {Lc : qTL} {Dc : qTD} {Rc : qTR} {Ir : qTI} {Lr : qTL} {Dr : qTD} {Rr : qTR} {a : Int32} {pc : Nat → Int64} {xc : Nat → UInt64} {pm : Nat → Int64} {xm : Nat → UInt64} {r : List Nat}
theorem qp_fetch {l : Nat} (hN : ∀ k, k < 32 → qc_n64 (xm k) = true) (hl8 : l < 8) (ha : qc_inb a 10 = true) (hcc : qi_cols (Ic 258) (Ir 292) (Ic 259) (Ir 293) (Ic 260) (Ir 294) (Lc 261) (Lr 295) (Dc 262) (Dr 296)) (hfl : Ir 291 69 = 0) (hl : r.length + 1 ≤ 24) (h : qp_R (1 :: r) pc xc pm xm) : qp_S w Ic Lc Dc Rc Ir Lr Dr Rr (nI (10 + l)) a (r.length + 1) pc xc pm xm (qw_kd l :: r) := by
  obtain ⟨v1, hR⟩ := h
  obtain ⟨e1, g1⟩ := v1.1 (by decide)
  have g1 := g1.2 rfl
  obtain ⟨c, hc, hac, -⟩ := qi_k ha (by decide)
  subst hac
  have eX : fX4_step w (qc_u Ic 287 2 (nI (r.length + 1))) (qi_rr Lc 288 pc) (qi_rr Dc 289 xc) Rc (nI (10 + l)) (nI c) = (qc_bd (fX4_fetch w (qc_u Ic 287 2 (nI (r.length + 1))) (qi_rr Lc 288 pc) (qi_rr Dc 289 xc) Rc (nI l) (nI c)) fun r29 I29 L29 D29 R29 => some (r29, I29, L29, D29, R29)) := by
    rcases (show l = 0 ∨ l = 1 ∨ l = 2 ∨ l = 3 ∨ l = 4 ∨ l = 5 ∨ l = 6 ∨ l = 7 by omega) with rfl | rfl | rfl | rfl | rfl | rfl | rfl | rfl <;> rfl
  have eM : fX12_does w (qc_u Ir 291 67 (nI (r.length + 1))) (qi_rr Lr 328 pm) (qi_rr Dr 329 xm) Rr (nI (10 + l)) (nI c) = (qc_bd (fX12_loads w (qc_u Ir 291 67 (nI (r.length + 1))) (qi_rr Lr 328 pm) (qi_rr Dr 329 xm) Rr (nI l) (nI c)) fun r I L D R => some ((), I, L, D, R)) := by
    rcases (show l = 0 ∨ l = 1 ∨ l = 2 ∨ l = 3 ∨ l = 4 ∨ l = 5 ∨ l = 6 ∨ l = 7 by omega) with rfl | rfl | rfl | rfl | rfl | rfl | rfl | rfl <;> rfl
  unfold fX4_fetch at eX
  unfold fX12_loads at eM
  rw [cx_take (by omega), qc_bds] at eX
  rcases hcc.1 c hc with ⟨a1, a2⟩ | ⟨i, j, a1, a2, a3, a4, a5, a6, a7, a8, a9⟩
  · rw [fx_cellF0 hc (by rw [qc_u_off _ _ (show 258 ≠ 287 by decide)]; exact a1), qc_bds, if_neg (show ¬ (1 : Int32) = 0 by decide), qc_bds] at eX
    rw [fm_cellAt0 hc hl a2, qc_bds, qc_u_at, if_neg (show ¬ (1 : Int32) ≤ 0 by decide), qc_bds] at eM
    exact ⟨1, _, _, _, _, _, _, eX, by rw [if_neg (show ¬ (1 : Int32) = 0 by decide)]; exact eM, fun q => absurd q (by decide), by decide, hN⟩
  · obtain ⟨sz, hsz, hsz2, -⟩ := qi_k a8 (by decide)
    have hszM : Ir 294 j = nI sz := a7.symm.trans hsz2
    have hX : fX1_cellFault w (qc_u Ic 287 2 (nI r.length)) (qi_rr Lc 288 pc) (qi_rr Dc 289 xc) Rc (nI c) (nI l) (pc r.length) = some (qp_cf (Ic 259 i) (nI l) sz (pc r.length), qc_u Ic 287 2 (nI r.length), qi_rr Lc 288 pc, qi_rr Dc 289 xc, Rc) := by
      rw [fx_cellFault hc a3 (by rw [qc_u_off _ _ (show 258 ≠ 287 by decide)]; exact a1), qc_u_off _ _ (show 259 ≠ 287 by decide), qc_u_off _ _ (show 260 ≠ 287 by decide), hsz2, nI_toInt (by omega)]
      rfl
    rw [hX, qc_bds] at eX
    rw [fm_cellAt1 hc a4 hl a2 hszM (by omega) hfl, ← e1, ← a5] at eM
    by_cases hcf : qp_cf (Ic 259 i) (nI l) sz (pc r.length) = 0
    · rw [if_pos hcf] at eX eM
      have hlane : Ic 259 i = nI l := by
        unfold qp_cf at hcf
        by_cases q : Ic 259 i = nI l
        · exact q
        · rw [if_neg q] at hcf
          exact absurd hcf (by decide)
      have hix : 0 ≤ (pc r.length).toInt ∧ (pc r.length).toInt < sz := by
        unfold qp_cf at hcf
        rw [if_pos hlane] at hcf
        by_cases q : 0 ≤ (pc r.length).toInt ∧ (pc r.length).toInt < sz
        · exact q
        · rw [if_neg q] at hcf
          exact absurd hcf (by decide)
      obtain ⟨t, ht, ht2⟩ := qi_ix g1 (by omega) hix
      obtain ⟨o1, o2, o3⟩ := a9 t (by omega)
      have e16 : nI i * 16 + nI t = nI (i * 16 + t) := by rw [show (16 : Int32) = nI 16 by decide, qi_mul, nI_add]
      have e16m : (16 : Int32) * nI j + nI t = nI (j * 16 + t) := by rw [show (16 : Int32) = nI 16 by decide, qi_mul, nI_add, Nat.mul_comm]
      have b1 : qc_inb (nI (i * 16 + t)) 160 = true := qi_inbN (by omega) (by decide)
      have b2 : qc_inb (nI (j * 16 + t)) 176 = true := qi_inbN (by omega) (by decide)
      rw [qc_bds, qc_u_ne _ _ (Or.inr (show 69 ≠ 67 by decide)), hfl, if_pos (Int32.le_refl _), ht2, e16m, b2, qc_gdt, qc_gdt, nI_clamp (by omega), qi_rr_off _ _ (show 295 ≠ 328 by decide), qi_rr_off _ _ (show 296 ≠ 329 by decide)] at eM
      unfold fX1_wholeAt fX1_realAt at eX
      rw [qc_u_off _ _ (show 258 ≠ 287 by decide), nI_clamp (by omega), a1, ht2, e16, b1, qi_inbN hc (by decide), qc_gdt, qc_gdt, qc_gdt, qc_gdt, nI_clamp (by omega), qi_rr_off _ _ (show 261 ≠ 288 by decide), qi_rr_off _ _ (show 262 ≠ 289 by decide), qc_bds, qc_bds] at eX
      by_cases l6 : l < 6
      · have hlt : nI l < (6 : Int32) := (qi_lt (b := 6) (by omega) (by decide)).mpr l6
        have hle : nI l ≤ (5 : Int32) := (qi_le (b := 5) (by omega) (by decide)).mpr (by omega)
        rw [if_pos hlt, cx_lay (by omega), qc_bds, qc_bds] at eX
        unfold fX12_lays at eM
        rw [if_pos hle, qc_u_at, qi_inbN (show r.length < 32 by omega) (by decide), qc_gdt, qc_bds, qc_bds, nI_clamp (by omega), qc_uu, qi_s1, qi_rr_u] at eM
        refine qp_mkp hN rfl ?_ hR o1 ⟨fun q => ?_, fun q => ?_⟩ eX eM
        · unfold qw_kd
          split
          · omega
          · split <;> omega
        · have hl0 : l = 0 := by
            unfold qw_kd at q
            split at q
            · assumption
            · split at q <;> omega
          exact o3.1 (by rw [hlane, hl0]; rfl)
        · have hl5 : l < 5 := by
            unfold qw_kd at q
            split at q
            · omega
            · split at q <;> omega
          exact o3.2.1 (by rw [hlane]; exact (qi_lt (b := 5) (by omega) (by decide)).mpr hl5)
      · have hlt : ¬ nI l < (6 : Int32) := fun q => l6 ((qi_lt (b := 6) (by omega) (by decide)).mp q)
        have hle : ¬ nI l ≤ (5 : Int32) := fun q => by have := (qi_le (b := 5) (by omega) (by decide)).mp q; omega
        rw [if_neg hlt, cx_layR (by omega), qc_bds, qc_bds] at eX
        unfold fX12_laysReal at eM
        rw [if_neg hle, qc_u_at, qi_inbN (show r.length < 32 by omega) (by decide), qc_gdt, qc_bds, qc_bds, nI_clamp (by omega), qc_uu, qi_s1, qi_rr_u] at eM
        have hkd : qw_kd l = l - 3 := by
          unfold qw_kd
          rw [if_neg (by omega), if_neg (by omega)]
        refine qp_mkx hN rfl (by omega) hR o2 ((qf_n64 _).mp o3.2.2.1) (fun q => ?_) eX eM
        exact o3.2.2.2 (by rw [hlane, show l = 6 by omega]; rfl)
    · rw [if_neg hcf] at eX eM
      have hpos : 0 ≤ (qp_cf (Ic 259 i) (nI l) sz (pc r.length)).toInt ∧ ¬ qp_cf (Ic 259 i) (nI l) sz (pc r.length) ≤ 0 := by
        revert hcf
        unfold qp_cf
        split
        · split
          · intro q; exact absurd rfl q
          · intro _; decide
        · intro _; decide
      rw [qc_bds] at eX
      rw [qc_bds, qc_u_at, if_neg hpos.2, qc_bds] at eM
      exact ⟨_, _, _, _, _, _, _, eX, by rw [if_neg hcf]; exact eM, fun q => absurd q hcf, hpos.1, hN⟩
end
