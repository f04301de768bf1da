/-! about, count, clear -/
section
variable {w : qcW} {I : qTI} {L : qTL} {D : qTD} {R : qTR}
theorem qi_inbN {k n : Nat} (h : k < n) (hn : n < 2 ^ 31) : qc_inb (nI k) n = true := (qi_inb_iff (nI k) n).mpr (by rw [nI_toInt (by omega)]; omega)
/-- a column of both, by its rows -/
theorem qi_at (h : Inv w (I, L, D, R)) {c : Nat} (hc : c < 10) : (I 258 c = -1 ∧ I 292 c = -1) ∨ ∃ i j : Nat, I 258 c = nI i ∧ I 292 c = nI j ∧ qi_rw i j (I 259) (I 293) (I 260) (I 294) (L 261) (L 295) (D 262) (D 296) := h.2.2.2.1.1 c hc
theorem fx_lane0 {c : Nat} (hc : c < 10) (h : I 258 c = -1) : fX1_laneOf w I L D R (nI c) = some (-1, I, L, D, R) := by
  simp only [fX1_laneOf, fx_isColumn, qi_inbN hc (by decide), qc_bds, if_true, qc_gdt, nI_clamp (show c < 2 ^ 31 by omega), h]
theorem fx_lane1 {c i : Nat} (hc : c < 10) (hi : i < 10) (h : I 258 c = nI i) : fX1_laneOf w I L D R (nI c) = some (I 259 i, I, L, D, R) := by
  simp only [fX1_laneOf, fx_isColumn, qi_inbN hc (by decide), qc_bds, if_true, qc_gdt, nI_clamp (show c < 2 ^ 31 by omega), h, qi_nI_m1 (show i < 2 ^ 31 by omega), if_false, qi_inbN hi (by decide), nI_clamp (show i < 2 ^ 31 by omega)]
theorem fx_size0 {c : Nat} (hc : c < 10) (h : I 258 c = -1) : fX1_sizeOf w I L D R (nI c) = some (-1, I, L, D, R) := by
  simp only [fX1_sizeOf, fx_isColumn, qi_inbN hc (by decide), qc_bds, if_true, qc_gdt, nI_clamp (show c < 2 ^ 31 by omega), h]
theorem fx_size1 {c i : Nat} (hc : c < 10) (hi : i < 10) (h : I 258 c = nI i) : fX1_sizeOf w I L D R (nI c) = some (I 260 i, I, L, D, R) := by
  simp only [fX1_sizeOf, fx_isColumn, qi_inbN hc (by decide), qc_bds, if_true, qc_gdt, nI_clamp (show c < 2 ^ 31 by omega), h, qi_nI_m1 (show i < 2 ^ 31 by omega), if_false, qi_inbN hi (by decide), nI_clamp (show i < 2 ^ 31 by omega)]
theorem fx_least {c : Nat} (hc : c < 10) : ∀ (n d : Nat), 10 < n + d → d ≤ c → (∀ e, e < d → I 258 e ≠ I 258 c) → ∃ m, m ≤ c ∧ I 258 m = I 258 c ∧ (∀ e, e < m → I 258 e ≠ I 258 c) ∧ fX1_leastLike_l2 w n (I, L, D, R, nI c, nI d) = some (nI m, I, L, D, R) := by
  intro n
  induction n with
  | zero => intro d h h2; omega
  | succ n ih =>
    intro d hn hd he
    rw [fX1_leastLike_l2_s]
    unfold fX1_leastLike_b2
    by_cases h : c ≤ d
    · have : d = c := by omega
      subst this
      rw [if_pos (Int32.le_refl _)]
      exact ⟨d, Nat.le_refl _, rfl, he, rfl⟩
    · rw [if_neg (fun q => h ((qi_le (by omega) (by omega)).mp q)), qi_inbN (show d < 10 by omega) (by decide), qi_inbN hc (by decide), qc_gdt, qc_gdt, nI_clamp (by omega), nI_clamp (by omega)]
      by_cases h2 : I 258 d = I 258 c
      · rw [if_pos h2]
        exact ⟨d, hd, h2, he, rfl⟩
      · rw [if_neg h2, qi_s1]
        exact ih (d + 1) (by omega) (by omega) (fun e h5 => by
          rcases Nat.lt_or_ge e d with q | q
          · exact he e q
          · rw [show e = d by omega]
            exact h2)
theorem fm_least {c : Nat} (hc : c < 10) : ∀ (n d : Nat), 10 < n + d → d ≤ c → (∀ e, e < d → I 292 e ≠ I 292 c) → ∃ m, m ≤ c ∧ I 292 m = I 292 c ∧ (∀ e, e < m → I 292 e ≠ I 292 c) ∧ fX12_about_l29 w n (I, L, D, R, nI c, nI d) = some (nI m, I, L, D, R) := by
  intro n
  induction n with
  | zero => intro d h h2; omega
  | succ n ih =>
    intro d hn hd he
    rw [fX12_about_l29_s]
    unfold fX12_about_b29
    rw [qi_inbN (show d < 10 by omega) (by decide), qi_inbN hc (by decide), qc_gdt, qc_gdt, nI_clamp (by omega), nI_clamp (by omega)]
    by_cases h2 : I 292 d = I 292 c
    · rw [if_pos h2]
      exact ⟨d, hd, h2, he, rfl⟩
    · rw [if_neg h2, qi_s1]
      have : d ≠ c := fun q => h2 (by rw [q])
      exact ih (d + 1) (by omega) (by omega) (fun e h5 => by
        rcases Nat.lt_or_ge e d with q | q
        · exact he e q
        · rw [show e = d by omega]
          exact h2)
theorem pp_about (h : Inv w (I, L, D, R)) (x y : Int32) : qv_pp w (fun I L D R => fX11_about w I L D R x y) (fun I L D R => fX12_about w I L D R x y) (I, L, D, R) := by
  cases hx : qc_inb x 10
  · exact qv_same h (-2) (by simp only [fX11_about, fx_isColumn, hx, qc_bds, qf_ff]) (by simp only [fX12_about, fm_isColumn, hx, qc_bds, qf_ff])
  · obtain ⟨c, hc, hxc, hc2⟩ := qi_k hx (by decide)
    subst hxc
    have hm0 : fX12_about w I L D R (nI c) y = if qc_inb y 3 = true then (if y = (2 : Int32) then (fX12_about_l29 w qcF (I, L, D, R, (nI c), (0 : Int32))) else (if I 292 c = -1 then (some ((-1 : Int32), I, L, D, R)) else (if y = 0 then (qc_gd (qc_inb (I 292 c) 11) <| some ((I 293 (Int32.toNatClampNeg (I 292 c))), I, L, D, R)) else (qc_gd (qc_inb (I 292 c) 11) <| some ((I 294 (Int32.toNatClampNeg (I 292 c))), I, L, D, R))))) else some (-2, I, L, D, R) := by
      simp only [fX12_about, fm_isColumn, hx, fm_in 3 (show (2 : Int64).toInt = (3 : Nat) - 1 by decide), qc_bds, if_true, qc_gdt, hc2]
    have hx0 : fX11_about w I L D R (nI c) y = (if y = 0 then (qc_bd (fX1_laneOf w I L D R (nI c)) fun r4 I4 L4 D4 R4 => some (r4, I4, L4, D4, R4)) else if y = 1 then (qc_bd (fX1_sizeOf w I L D R (nI c)) fun r6 I6 L6 D6 R6 => some (r6, I6, L6, D6, R6)) else if y = 2 then (qc_bd (fX1_leastLike w I L D R (nI c)) fun r8 I8 L8 D8 R8 => some (r8, I8, L8, D8, R8)) else (some ((-2 : Int32), I, L, D, R))) := by
      simp only [fX11_about, fx_isColumn, hx, qc_bds, if_true]
    by_cases y0 : y = 0
    · subst y0
      rw [show qc_inb 0 3 = true by decide, if_pos rfl, if_neg (by decide)] at hm0
      rw [if_pos rfl] at hx0 hm0
      rcases qi_at h hc with ⟨a1, a2⟩ | ⟨i, j, a1, a2, a3, a4, a5, -⟩
      · rw [fx_lane0 hc a1] at hx0
        rw [if_pos a2] at hm0
        exact qv_same h _ hx0 hm0
      · rw [fx_lane1 hc a3 a1] at hx0
        rw [if_neg (by rw [a2]; exact qi_nI_m1 (by omega)), a2, qi_inbN a4 (by decide), qc_gdt, nI_clamp (by omega), ← a5] at hm0
        exact qv_same h _ hx0 hm0
    · rw [if_neg y0] at hx0
      by_cases y1 : y = 1
      · subst y1
        rw [show qc_inb 1 3 = true by decide, if_pos rfl, if_neg (by decide)] at hm0
        rw [if_pos rfl] at hx0
        rw [if_neg (show ¬ (1 : Int32) = 0 by decide)] at hm0
        rcases qi_at h hc with ⟨a1, a2⟩ | ⟨i, j, a1, a2, a3, a4, a5, a6, a7, -⟩
        · rw [fx_size0 hc a1] at hx0
          rw [if_pos a2] at hm0
          exact qv_same h _ hx0 hm0
        · rw [fx_size1 hc a3 a1] at hx0
          rw [if_neg (by rw [a2]; exact qi_nI_m1 (by omega)), a2, qi_inbN a4 (by decide), qc_gdt, nI_clamp (by omega), ← a7] at hm0
          exact qv_same h _ hx0 hm0
      · rw [if_neg y1] at hx0
        by_cases y2 : y = 2
        · subst y2
          rw [show qc_inb 2 3 = true by decide, if_pos rfl, if_pos rfl] at hm0
          rw [if_pos rfl] at hx0
          obtain ⟨m, m1, m2, m3, m4⟩ := fx_least (w := w) (I := I) (L := L) (D := D) (R := R) hc qcF 0 (qi_F12 0) (by omega) (fun e he => by omega)
          obtain ⟨p, p1, p2, p3, p4⟩ := fm_least (w := w) (I := I) (L := L) (D := D) (R := R) hc qcF 0 (qi_F12 0) (by omega) (fun e he => by omega)
          have hmp : m = p := by
            have hiff := h.2.2.2.1.2
            rcases Nat.lt_trichotomy m p with q | q | q
            · exact absurd ((hiff m c (by omega) hc).mp m2) (p3 m q)
            · exact q
            · exact absurd ((hiff p c (by omega) hc).mpr p2) (m3 p q)
          have m4' : fX1_leastLike w I L D R (nI c) = some (nI m, I, L, D, R) := m4
          rw [m4'] at hx0
          have p4' : fX12_about_l29 w qcF (I, L, D, R, nI c, 0) = some (nI p, I, L, D, R) := p4
          rw [p4', ← hmp] at hm0
          exact qv_same h _ hx0 hm0
        · rw [if_neg y2] at hx0
          have : qc_inb y 3 = false := by
            cases e : qc_inb y 3
            · rfl
            · exfalso
              obtain ⟨k, hk, rfl, -⟩ := qi_k e (by decide)
              rcases (show k = 0 ∨ k = 1 ∨ k = 2 by omega) with rfl | rfl | rfl
              · exact y0 (by decide)
              · exact y1 (by decide)
              · exact y2 (by decide)
          rw [this, qf_ff] at hm0
          exact qv_same h _ hx0 hm0
theorem qi_present (h : ∀ e, e < 10 → (I 258 e = -1 ↔ I 292 e = -1)) : ∀ (n i : Nat) (a : Int32), 10 < n + i → i ≤ 10 → ∃ r, fX1_present_l4 w n (I, L, D, R, a, nI i) = some (r, I, L, D, R) ∧ fX12_count_l9 w n (I, L, D, R, a, nI i) = some (r, I, L, D, R) := by
  intro n
  induction n with
  | zero => intro i a h1 h2; omega
  | succ n ih =>
    intro i a hn hi
    rw [fX1_present_l4_s, fX12_count_l9_s]
    unfold fX1_present_b4 fX12_count_b9 fX1_present_b23 fX12_count_b31
    by_cases h2 : 10 ≤ i
    · rw [if_pos ((qi_10 (by omega)).mpr h2), if_pos ((qi_10 (by omega)).mpr h2)]
      exact ⟨a, rfl, rfl⟩
    · have q2 : ¬ (10 : Int32) ≤ nI i := fun q => h2 ((qi_10 (by omega)).mp q)
      rw [if_neg q2, if_neg q2, qi_inbN (show i < 10 by omega) (by decide), qc_gdt, qc_gdt, nI_clamp (by omega), qi_s1]
      by_cases h3 : I 258 i = -1
      · rw [if_pos h3, if_pos ((h i (by omega)).mp h3), Int32.add_zero]
        exact ih (i + 1) a (by omega) (by omega)
      · rw [if_neg h3, if_neg (fun q => h3 ((h i (by omega)).mpr q))]
        exact ih (i + 1) (a + 1) (by omega) (by omega)
theorem pp_count (h : Inv w (I, L, D, R)) (x : Int32) : qv_pp w (fun I L D R => fX11_count w I L D R x) (fun I L D R => fX12_count w I L D R x) (I, L, D, R) := by
  by_cases h1 : x = 1
  · subst h1
    obtain ⟨r, e1, e2⟩ := qi_present (w := w) (L := L) (D := D) (R := R) (fun e he => qi_none_iff h.2.2.2.1 he) qcF 0 0 (qi_F12 0) (by omega)
    have e1' : fX1_present w I L D R = some (r, I, L, D, R) := e1
    refine qv_same h r ?_ ?_
    · simp only [fX11_count, e1', qc_bds]
      rfl
    · simp only [fX12_count]
      exact e2
  · have a1 : I 256 7 = I 291 0 := h.2.2.1.1
    have a2 : I 256 6 = I 291 40 := h.2.2.2.2.2.2.2.1.1
    have a3 : I 265 1 = I 291 7 := h.2.2.2.2.1.1
    have e : fX11_count w I L D R x = fX12_count w I L D R x := by
      simp only [fX11_count, fX12_count, a1, a2, a3, if_neg h1]
    have : ∃ r, fX12_count w I L D R x = some (r, I, L, D, R) := by
      simp only [fX12_count, if_neg h1]
      repeat' split
      all_goals exact ⟨_, rfl⟩
    obtain ⟨r, hr⟩ := this
    exact qv_same h r (e.trans hr) hr
end
