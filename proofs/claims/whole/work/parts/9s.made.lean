/-! what the class makes of sums that are joined -/
section
variable {w : qcW} {I : qTI} {L : qTL} {D : qTD} {R : qTR} {c h pk : Nat} {l : List (Nat × Nat)} {x y z : qDen}
theorem kC_cv (hW : qc_WF w) (hR : qc_FR R) (hc : c = 270 ∨ c = 273 ∨ c = 276) (hk : kC c l h pk I) {f t : Nat} (hf : f ≤ 4) (ht : t ≤ 4) (hl : l.length < 5000) (hp : h ≤ pk) :
    ∃ I' : qTI, fX0_convert w I L D R c (nI f) (nI t) = some ((), I', L, D, R) ∧ kC c (l ++ qs_cv f t) h pk I' ∧ fC c I I' := by
  unfold fX0_convert qs_cv fX0_conversion
  rw [qc_WF_i hW hc, qc_gdt]
  by_cases e : f = t
  · rw [if_pos (by rw [e]), if_pos e, List.append_nil]
    exact ⟨I, rfl, hk, fun _ _ _ _ => rfl⟩
  rw [if_neg (fun q => e ((qi_nI_inj' (by omega) (by omega)).mp q)), if_neg e, qc_bds]
  have ecv : (1600 : Int32) + 10 * nI f + nI t = nI (1600 + 10 * f + t) := by
    rw [show (10 : Int32) = nI 10 by decide, show (1600 : Int32) = nI 1600 by decide, qi_mul, nI_add, nI_add]
  rw [ecv]
  obtain ⟨I', e1, e2, e3⟩ := kC_add (w := w) (L := L) (D := D) hW hR hc hk (o := 1600 + 10 * f + t) (a := 0) (h' := h) (by omega) (by decide) (fun q => by have := qs_ij_of q; omega) (by rw [qh_0 (by omega) (by omega), Int32.add_zero]) hl hk.1.2.1
  have e1 : fX0_add w I L D R c (nI (1600 + 10 * f + t)) 0 = some ((), I', L, D, R) := e1
  rw [e1, qc_bds]
  rw [Nat.max_eq_left hp] at e2
  exact ⟨I', rfl, e2, e3⟩
/-- an act that takes none more than it lays -/
theorem kC_add0 (hW : qc_WF w) (hR : qc_FR R) (hc : c = 270 ∨ c = 273 ∨ c = 276) (hk : kC c l h pk I) {o a : Nat} (ho : (10 ≤ o ∧ o < 20) ∨ (1200 ≤ o ∧ o ≤ 1400) ∨ (1500 ≤ o ∧ o ≤ 1750) ∨ 1802 < o ∧ o < 2000) (ha : a < 2147483648) (hl : l.length < 5000) (hp : h ≤ pk) :
    ∃ I' : qTI, fX0_add w I L D R c (nI o) (nI a) = some ((), I', L, D, R) ∧ kC c (l ++ [(o, a)]) h pk I' ∧ fC c I I' := by
  obtain ⟨I', e1, e2, e3⟩ := kC_add (w := w) (L := L) (D := D) hW hR hc hk (o := o) (a := a) (h' := h) (by omega) ha (fun q => by have := qs_ij_of q; omega) (by rw [qh_0 (by omega) (by omega), Int32.add_zero]) hl hk.1.2.1
  rw [Nat.max_eq_left hp] at e2
  exact ⟨I', e1, e2, e3⟩
theorem kC_addm (hW : qc_WF w) (hR : qc_FR R) (hc : c = 270 ∨ c = 273 ∨ c = 276) (hk : kC c l (h + 1) pk I) {o a : Nat} (ho : (100 ≤ o ∧ o < 1200) ∨ (1400 < o ∧ o < 1500) ∨ (1750 < o ∧ o ≤ 1801)) (ha : a < 2147483648) (hj : qs_ij o = true → a ≤ l.length + 1) (hl : l.length < 5000) (hp : h + 1 ≤ pk) :
    ∃ I' : qTI, fX0_add w I L D R c (nI o) (nI a) = some ((), I', L, D, R) ∧ kC c (l ++ [(o, a)]) h pk I' ∧ fC c I I' := by
  have hh := hk.1.2.1
  obtain ⟨I', e1, e2, e3⟩ := kC_add (w := w) (L := L) (D := D) hW hR hc hk (o := o) (a := a) (h' := h) (by omega) ha hj (by rw [qh_m ho, ← Int32.sub_eq_add_neg]; exact qi_sub (a := h + 1) (b := 1) (by omega)) hl (by omega)
  rw [Nat.max_eq_left (by omega)] at e2
  exact ⟨I', e1, e2, e3⟩
theorem kC_add1 (hW : qc_WF w) (hR : qc_FR R) (hc : c = 270 ∨ c = 273 ∨ c = 276) (hk : kC c l h pk I) {o a : Nat} (ho : o < 10) (ha : a < 2147483648) (hl : l.length < 5000) (hp : h < 1000) :
    ∃ I' : qTI, fX0_add w I L D R c (nI o) (nI a) = some ((), I', L, D, R) ∧ kC c (l ++ [(o, a)]) (h + 1) (max pk (h + 1)) I' ∧ fC c I I' :=
  kC_add (w := w) (L := L) (D := D) hW hR hc hk (o := o) (a := a) (h' := h + 1) (by omega) ha (fun q => by have := qs_ij_of q; omega) (by rw [qh_1 ho]; exact qi_s1 h) hl (by omega)
theorem fC_tr {I1 I2 : qTI} (h : fC c I I1) (g : fC c I1 I2) : fC c I I2 := fun x a1 a2 a3 => (g x a1 a2 a3).trans (h x a1 a2 a3)
theorem kC_addJ (hW : qc_WF w) (hR : qc_FR R) (hc : c = 270 ∨ c = 273 ∨ c = 276) (hk : kC c l h pk I) {o h' : Nat} (ho : 1800 ≤ o ∧ o ≤ 1802) (hh : o = 1802 ∧ h' = h ∨ o ≠ 1802 ∧ h = h' + 1) (hl : l.length < 5000) (hp : h ≤ pk) :
    ∃ I' : qTI, fX0_addJump w I L D R c (nI o) = some (nI l.length, I', L, D, R) ∧ kC c (l ++ [(o, 0)]) h' pk I' ∧ fC c I I' := by
  have hb := hk.1.2.1
  obtain ⟨I', e1, e2, e3⟩ := kC_add (w := w) (L := L) (D := D) hW hR hc hk (o := o) (a := 0) (h' := h') (by omega) (by decide) (fun _ => Nat.zero_le _) (by
    rcases hh with ⟨z1, z2⟩ | ⟨z1, z2⟩
    · rw [qh_0 (by omega) (by omega), Int32.add_zero, z2]
    · rw [qh_m (by omega), z2, ← Int32.sub_eq_add_neg]
      exact qi_sub (a := h' + 1) (b := 1) (by omega)) hl (by omega)
  have e1 : fX0_add w I L D R c (nI o) 0 = some ((), I', L, D, R) := e1
  unfold fX0_addJump
  rw [qc_WF_i hW hc, qc_gdt, e1, qc_bds, e2.2.1]
  rw [Nat.max_eq_left (by omega)] at e2
  refine ⟨I', ?_, e2, e3⟩
  rw [List.length_append, show nI (l.length + [(o, 0)].length) - 1 = nI l.length from qi_sub (a := l.length + 1) (b := 1) (by omega)]
/-- and, or -/
theorem kX_jt (hW : qc_WF w) (hR : qc_FR R) (hc : c = 270 ∨ c = 273 ∨ c = 276) (h4 : R 267 4 = c) {m p a : Nat} (hm : m = 20 ∨ m = 21) {A Y : List (Nat × Nat)} (hk : kC c (A ++ (p, a) :: Y) (h + 1) pk I) (hl : (A ++ (p, a) :: Y).length < 4990) (hp : h + 1 ≤ pk) :
    ∃ I' : qTI, fX2_joinTruths w I L D R m (nI A.length) = some (0, I', L, D, R) ∧ kC c (A ++ (p, A.length + 1 + Y.length + 1) :: (Y ++ [(1802, A.length + 1 + Y.length + 2), (1, if m = 20 then 1 else 0)])) (h + 1) pk I' ∧ fC c I I' := by
  have hlen : (A ++ (p, a) :: Y).length = A.length + (Y.length + 1) := by rw [List.length_append]; rfl
  have hb := hk.1.2.1
  unfold fX2_joinTruths fX2_joinTruths_b43
  rw [show qc_l62 m = true from Nat.ble_eq.mpr (by omega), qc_gdt, h4, qc_WF_i hW hc, qc_gdt]
  obtain ⟨I1, e1, k1, f1⟩ := kC_addJ (w := w) (L := L) (D := D) hW hR hc hk (o := 1802) (h' := h + 1) (by decide) (Or.inl ⟨rfl, rfl⟩) (by omega) hp
  have e1 : fX0_addJump w I L D R c 1802 = some (nI (A ++ (p, a) :: Y).length, I1, L, D, R) := e1
  rw [e1, qc_bds, h4, qc_WF_i hW hc, qc_gdt]
  rw [List.append_assoc, List.cons_append] at k1
  obtain ⟨I2, e2, k2, f2, -⟩ := kC_aim (w := w) (L := L) (D := D) hW hR hc k1
  rw [e2, qc_bds, h4, qc_WF_i hW hc, qc_gdt]
  obtain ⟨I3, e3, k3, f3⟩ := kC_otherWay (w := w) (L := L) (D := D) (R := R) hW hc k2
  rw [e3, qc_bds, h4, qc_WF_i hW hc, qc_gdt, qc_gdt, qc_gdt]
  have hlen1 : (A ++ (p, a) :: (Y ++ [(1802, 0)])).length = A.length + 1 + Y.length + 1 := by rw [List.length_append, List.length_cons, List.length_append]; show A.length + (Y.length + 1 + 1) = _; omega
  have hlen2 : (A ++ (p, (A ++ (p, a) :: (Y ++ [(1802, 0)])).length) :: (Y ++ [(1802, 0)])).length = A.length + 1 + Y.length + 1 := by rw [List.length_append, List.length_cons, List.length_append]; show A.length + (Y.length + 1 + 1) = _; omega
  obtain ⟨I4, e4, k4, f4⟩ := kC_add1 (w := w) (L := L) (D := D) hW hR hc k3 (o := 1) (a := if m = 20 then 1 else 0) (by decide) (by split <;> decide) (by omega) (by omega)
  have hlast : ∃ I', (qc_bd (fX0_add w I3 L D R c 1 (nI (if m = 20 then 1 else 0))) fun r2 I2 L2 D2 R2 => qc_gd (qc_io w (R2 267 4) 0) (qc_bd (fX0_aim w I2 L2 D2 R2 (R2 267 4) (nI (A ++ (p, a) :: Y).length)) fun r4 I4 L4 D4 R4 => some ((0 : Int32), I4, L4, D4, R4))) = some (0, I', L, D, R) ∧ kC c (A ++ (p, A.length + 1 + Y.length + 1) :: (Y ++ [(1802, A.length + 1 + Y.length + 2), (1, if m = 20 then 1 else 0)])) (h + 1) pk I' ∧ fC c I I' := by
    have e4 : fX0_add w I3 L D R c 1 (nI (if m = 20 then 1 else 0)) = some ((), I4, L, D, R) := e4
    rw [e4, qc_bds, h4, qc_WF_i hW hc, qc_gdt]
    rw [hlen1] at k4
    have hA : A ++ (p, A.length + 1 + Y.length + 1) :: (Y ++ [(1802, 0)]) ++ [(1, if m = 20 then 1 else 0)] = (A ++ (p, A.length + 1 + Y.length + 1) :: Y) ++ (1802, 0) :: [(1, if m = 20 then 1 else 0)] := by
      simp only [List.append_assoc, List.cons_append, List.nil_append]
    rw [hA] at k4
    obtain ⟨I5, e5, k5, f5, -⟩ := kC_aim (w := w) (L := L) (D := D) hW hR hc k4
    have hl3 : (A ++ (p, A.length + 1 + Y.length + 1) :: Y).length = (A ++ (p, a) :: Y).length := by rw [List.length_append, List.length_append]; rfl
    rw [hl3] at e5
    rw [e5, qc_bds]
    refine ⟨I5, rfl, ?_, fC_tr f1 (fC_tr f2 (fC_tr f3 (fC_tr f4 f5)))⟩
    have hl4 : (A ++ (p, A.length + 1 + Y.length + 1) :: Y ++ (1802, 0) :: [(1, if m = 20 then 1 else 0)]).length = A.length + 1 + Y.length + 2 := by
      rw [List.length_append, List.length_append]; show A.length + (Y.length + 1) + 2 = _; omega
    rw [hl4, Nat.max_eq_left hp] at k5
    simp only [List.append_assoc, List.cons_append, List.nil_append] at k5 ⊢
    exact k5
  rcases hm with rfl | rfl
  · rw [if_pos rfl]
    exact hlast
  · rw [if_neg (by decide)]
    exact hlast
end
