/-! the reference lays code: a node's -/
/-- it was too much -/
def lZ (q p : Nat) (I0 I : qTI) : Prop := lF q p I0 I ∧ I 291 51 = 1 ∧ I 317 (3 * q + p) = nI 200
/-- code so far, or too much -/
def lQ (q p : Nat) (I0 : qTI) (T : qTs) (l : List (Nat × Nat)) (I : qTI) : Prop := (l.length ≤ 200 → lR q p I0 T l I) ∧ (200 < l.length → lZ q p I0 I)
def lV (w : qcW) (L : qTL) (D : qTD) (R : qTR) (q p : Nat) (I0 : qTI) (k : Nat) (I : qTI) (T : qTs) (l' : List (Nat × Nat)) (N c : Nat) (out : qcO Unit) : Prop :=
  (l'.length ≤ 200 → ∃ N' I', out = fX12_layAll_l12 w N' (I', L, D, R) ∧ lR q p I0 T l' I' ∧ (∀ i, k ≤ i → I' 327 i = I 327 i) ∧ N ≤ N' + c) ∧ (200 < l'.length → ∃ I', out = some ((), I', L, D, R) ∧ lZ q p I0 I')
section
variable {w : qcW} {I I0 : qTI} {L : qTL} {D : qTD} {R : qTR} {q p N c k : Nat} {T : qTs} {l : List (Nat × Nat)} {ds : List qDen} {out : qcO Unit}
theorem lV_b {k1 k2 c1 c2 : Nat} {T1 T2 : qTs} {l1 l2 : List (Nat × Nat)} (h : lV w L D R q p I0 k1 I T1 l1 N c1 out) (hl : l1.length ≤ l2.length) (h1 : k1 ≤ k) (h2 : k2 ≤ k) (hc : c1 + c2 ≤ c)
    (g : l1.length ≤ 200 → ∀ N' I', lR q p I0 T1 l1 I' → (∀ i, k1 ≤ i → I' 327 i = I 327 i) → N ≤ N' + c1 → lV w L D R q p I0 k2 I' T2 l2 N' c2 (fX12_layAll_l12 w N' (I', L, D, R))) : lV w L D R q p I0 k I T2 l2 N c out := by
  by_cases z : l1.length ≤ 200
  · obtain ⟨N', I', e1, e2, e3, e4⟩ := h.1 z
    rw [e1]
    obtain ⟨g1, g2⟩ := g z N' I' e2 e3 e4
    refine ⟨fun y => ?_, g2⟩
    obtain ⟨N2, I2, f1, f2, f3, f4⟩ := g1 y
    exact ⟨N2, I2, f1, f2, fun i hi => (f3 i (by omega)).trans (e3 i (by omega)), by omega⟩
  · exact ⟨fun y => by omega, fun _ => h.2 (by omega)⟩
theorem lV_k {k' c' : Nat} (h : lV w L D R q p I0 k I T l N c out) (hk : k ≤ k') (hc : c ≤ c') : lV w L D R q p I0 k' I T l N c' out := by
  refine ⟨fun z => ?_, h.2⟩
  obtain ⟨N', I', e1, e2, e3, e4⟩ := h.1 z
  exact ⟨N', I', e1, e2, fun i hi => e3 i (by omega), by omega⟩
/-- one round of the loop -/
theorem l_rd {t : Nat × Int32 × Int32} (h : lR q p I0 (t :: T) l I) (hT : T.length < 2000) : fX12_layAll_l12 w (N + 1) (I, L, D, R) =
    if t.1 = 0 then (qc_bd (fX12_unfold w (qc_u I 291 52 (nI T.length)) L D R t.2.1) fun r7 I7 L7 D7 R7 => fX12_layAll_l12 w N (I7, L7, D7, R7))
    else if t.1 = 1 then (qc_bd (fX12_becomes w (qc_u I 291 52 (nI T.length)) L D R t.2.1 t.2.2) fun r9 I9 L9 D9 R9 => fX12_layAll_l12 w N (I9, L9, D9, R9))
    else if t.1 = 2 then (qc_bd (fX12_emit w (qc_u I 291 52 (nI T.length)) L D R t.2.1 t.2.2) fun r11 I11 L11 D11 R11 => fX12_layAll_l12 w N (I11, L11, D11, R11))
    else if t.1 = 3 then (qc_bd (fX12_here w (qc_u I 291 52 (nI T.length)) L D R) fun r13 I13 L13 D13 R13 => qc_gd (qc_inb t.2.2 840) <| qc_bd (fX12_emit w (qc_u I13 327 (Int32.toNatClampNeg t.2.2) r13) L13 D13 R13 t.2.1 (0 : Int32)) fun r15 I15 L15 D15 R15 => fX12_layAll_l12 w N (I15, L15, D15, R15))
    else if t.1 = 4 then (qc_gd (qc_inb t.2.1 840) <| qc_bd (fX12_patch w (qc_u I 291 52 (nI T.length)) L D R ((qc_u I 291 52 (nI T.length)) 327 (Int32.toNatClampNeg t.2.1))) fun r18 I18 L18 D18 R18 => fX12_layAll_l12 w N (I18, L18, D18, R18))
    else (qc_bd (fX12_casts w (qc_u I 291 52 (nI T.length)) L D R t.2.1 t.2.2) fun r19 I19 L19 D19 R19 => fX12_layAll_l12 w N (I19, L19, D19, R19)) := by
  obtain ⟨-, p2, p3, p4, p5, p6⟩ := l_pop h
  have f2 := h.2.1
  rw [fX12_layAll_l12_s]
  unfold fX12_layAll_b12
  have e0 : ¬ I 291 52 ≤ 0 := fun u => by rw [p2] at u; have := (qi_le (b := 0) (by omega) (by decide)).mp u; omega
  have s1 : nI (T.length + 1) - 1 = nI T.length := qi_sub (a := T.length + 1) (b := 1) (by omega)
  rw [if_neg e0, if_pos f2, p2, s1]
  simp only [qc_u_at, qi_inbN hT (by decide : 2000 < 2 ^ 31), qc_gdt, nI_clamp (show T.length < 2 ^ 31 by omega), qc_u_off _ _ (show (324 : Nat) ≠ 291 by decide), qc_u_off _ _ (show (325 : Nat) ≠ 291 by decide), qc_u_off _ _ (show (326 : Nat) ≠ 291 by decide), p3, p4, p5]
  rcases (show t.1 = 0 ∨ t.1 = 1 ∨ t.1 = 2 ∨ t.1 = 3 ∨ t.1 = 4 ∨ t.1 = 5 by omega) with z | z | z | z | z | z
  all_goals (rw [z]; rfl)
theorem l_stop (h : lZ q p I0 I) : fX12_layAll_l12 w (N + 1) (I, L, D, R) = some ((), I, L, D, R) := by
  rw [fX12_layAll_l12_s]
  unfold fX12_layAll_b12
  rw [h.2.1]
  split
  · rfl
  · rw [if_neg (by decide)]
/-- behind an emit -/
theorem l_em (hS : lS q p I0) (h : lR q p I0 T l I) (hN : 1 ≤ N) (o a : Nat) : lV w L D R q p I0 0 I T (l ++ [(o, a)]) N 0 (qc_bd (fX12_emit w I L D R (nI o) (nI a)) fun _ I L D R => fX12_layAll_l12 w N (I, L, D, R)) := by
  rw [lV, List.length_append, List.length_singleton]
  refine ⟨fun z => ?_, fun z => ?_⟩
  · obtain ⟨I', e1, e2, e3⟩ := l_emit (w := w) (L := L) (D := D) (R := R) hS h (by omega) o a
    rw [e1, qc_bds]
    exact ⟨N, I', rfl, e2, fun i _ => by rw [e3], by omega⟩
  · have hl := h.2.2.2.2.1
    obtain ⟨N, rfl⟩ : ∃ k, N = k + 1 := ⟨N - 1, by omega⟩
    have hz : lZ q p I0 (qc_u I 291 51 1) := ⟨lF_u h.1 _ (by omega), qc_u_at _ _ _ _, by rw [qc_u_ne _ _ (Or.inl (by decide)), h.2.2.2.1, show l.length = 200 by omega]⟩
    rw [l_full hS h (by omega), qc_bds, l_stop hz]
    exact ⟨_, rfl, hz⟩
theorem l_be (hS : lS q p I0) (h : lR q p I0 T l I) (hN : 1 ≤ N) {f t : Nat} (hf : f ≤ 4) (ht : t ≤ 4) : lV w L D R q p I0 0 I T (l ++ qs_cv f t) N 0 (qc_bd (fX12_becomes w I L D R (nI f) (nI t)) fun _ I L D R => fX12_layAll_l12 w N (I, L, D, R)) := by
  unfold fX12_becomes qs_cv
  have e : nI f = nI t ↔ f = t := qi_nI_inj' (by omega) (by omega)
  by_cases z : f = t
  · rw [if_pos (e.mpr z), qc_bds, if_pos z, List.append_nil]
    have hl := h.2.2.2.2.1
    exact ⟨fun _ => ⟨N, I, rfl, h, fun _ _ => rfl, by omega⟩, fun u => by omega⟩
  · rw [if_neg (fun u => z (e.mp u)), if_neg z]
    have eo : (((1600 : Int32) + ((10 : Int32) * nI f)) + nI t) = nI (1600 + 10 * f + t) := by rw [show (1600 : Int32) = nI 1600 from rfl, show (10 : Int32) = nI 10 from rfl, qi_mul, nI_add, nI_add]
    rw [eo]
    have := l_em (w := w) (L := L) (D := D) (R := R) hS h hN (1600 + 10 * f + t) 0
    have e2 : (qc_bd (qc_bd (fX12_emit w I L D R (nI (1600 + 10 * f + t)) 0) fun r2 I2 L2 D2 R2 => some ((), I2, L2, D2, R2)) fun _ I L D R => fX12_layAll_l12 w N (I, L, D, R)) = qc_bd (fX12_emit w I L D R (nI (1600 + 10 * f + t)) (nI 0)) fun _ I L D R => fX12_layAll_l12 w N (I, L, D, R) := by
      show qc_bd (qc_bd (fX12_emit w I L D R (nI (1600 + 10 * f + t)) (nI 0)) _) _ = _
      cases fX12_emit w I L D R (nI (1600 + 10 * f + t)) (nI 0) with
      | none => rfl
      | some u => rfl
    rw [e2]
    exact this
/-- tasks of each sort -/
theorem lt_1 (hS : lS q p I0) {f t : Nat} (h : lR q p I0 ((1, nI f, nI t) :: T) l I) (hT : T.length < 2000) (hN : 2 ≤ N) (hf : f ≤ 4) (ht : t ≤ 4) : lV w L D R q p I0 0 I T (l ++ qs_cv f t) N 1 (fX12_layAll_l12 w N (I, L, D, R)) := by
  obtain ⟨N, rfl⟩ : ∃ k, N = k + 1 := ⟨N - 1, by omega⟩
  rw [l_rd h hT, if_neg (show ¬ 1 = 0 by decide), if_pos (show 1 = 1 from rfl)]
  obtain ⟨a1, a2⟩ := l_be (w := w) (L := L) (D := D) (R := R) (N := N) hS (l_pop h).1 (by omega) hf ht
  refine ⟨fun z => ?_, a2⟩
  obtain ⟨N', I', e1, e2, e3, e4⟩ := a1 z
  exact ⟨N', I', e1, e2, fun i hi => (e3 i hi).trans (by rw [qc_u_off _ _ (by decide)]), by omega⟩
theorem lt_2 (hS : lS q p I0) {o a : Nat} (h : lR q p I0 ((2, nI o, nI a) :: T) l I) (hT : T.length < 2000) (hN : 2 ≤ N) : lV w L D R q p I0 0 I T (l ++ [(o, a)]) N 1 (fX12_layAll_l12 w N (I, L, D, R)) := by
  obtain ⟨N, rfl⟩ : ∃ k, N = k + 1 := ⟨N - 1, by omega⟩
  rw [l_rd h hT, if_neg (show ¬ 2 = 0 by decide), if_neg (show ¬ 2 = 1 by decide), if_pos (show 2 = 2 from rfl)]
  obtain ⟨a1, a2⟩ := l_em (w := w) (L := L) (D := D) (R := R) (N := N) hS (l_pop h).1 (by omega) o a
  refine ⟨fun z => ?_, a2⟩
  obtain ⟨N', I', e1, e2, e3, e4⟩ := a1 z
  exact ⟨N', I', e1, e2, fun i hi => (e3 i hi).trans (by rw [qc_u_off _ _ (by decide)]), by omega⟩
/-- a jump: where it stands is kept at j -/
theorem lt_3 (hS : lS q p I0) {o j : Nat} (h : lR q p I0 ((3, nI o, nI j) :: T) l I) (hT : T.length < 2000) (hN : 2 ≤ N) (hj : j < 840) : (l.length + 1 ≤ 200 → ∃ N' I', fX12_layAll_l12 w N (I, L, D, R) = fX12_layAll_l12 w N' (I', L, D, R) ∧ lR q p I0 T (l ++ [(o, 0)]) I' ∧ (∀ i, i ≠ j → I' 327 i = I 327 i) ∧ I' 327 j = nI l.length ∧ N ≤ N' + 1) ∧ (200 < l.length + 1 → ∃ I', fX12_layAll_l12 w N (I, L, D, R) = some ((), I', L, D, R) ∧ lZ q p I0 I') := by
  obtain ⟨N, rfl⟩ : ∃ k, N = k + 1 := ⟨N - 1, by omega⟩
  have hp := (l_pop h).1
  have hp2 := l_jmp hp j (nI l.length)
  rw [l_rd h hT, if_neg (show ¬ 3 = 0 by decide), if_neg (show ¬ 3 = 1 by decide), if_neg (show ¬ 3 = 2 by decide), if_pos (show 3 = 3 from rfl), l_here hS hp, qc_bds]
  show (_ → ∃ N' I', (qc_gd (qc_inb (nI j) 840) (qc_bd (fX12_emit w (qc_u (qc_u I 291 52 (nI T.length)) 327 (Int32.toNatClampNeg (nI j)) (nI l.length)) L D R (nI o) (nI 0)) fun r15 I15 L15 D15 R15 => fX12_layAll_l12 w N (I15, L15, D15, R15))) = _ ∧ _) ∧ (_ → ∃ I', (qc_gd (qc_inb (nI j) 840) (qc_bd (fX12_emit w (qc_u (qc_u I 291 52 (nI T.length)) 327 (Int32.toNatClampNeg (nI j)) (nI l.length)) L D R (nI o) (nI 0)) fun r15 I15 L15 D15 R15 => fX12_layAll_l12 w N (I15, L15, D15, R15))) = _ ∧ _)
  rw [qi_inbN hj (by decide), qc_gdt, nI_clamp (by omega)]
  refine ⟨fun z => ?_, fun z => ?_⟩
  · obtain ⟨I', e1, e2, e3⟩ := l_emit (w := w) (L := L) (D := D) (R := R) hS hp2 (by omega) o 0
    rw [e1, qc_bds]
    refine ⟨N, I', rfl, e2, fun i hi => ?_, ?_, by omega⟩
    · rw [e3, qc_u_ne _ _ (Or.inr hi), qc_u_off _ _ (by decide)]
    · rw [e3, qc_u_at]
  · have hl := h.2.2.2.2.1
    obtain ⟨N, rfl⟩ : ∃ k, N = k + 1 := ⟨N - 1, by omega⟩
    have hz : lZ q p I0 (qc_u (qc_u (qc_u I 291 52 (nI T.length)) 327 j (nI l.length)) 291 51 1) := ⟨lF_u hp2.1 _ (by omega), qc_u_at _ _ _ _, by rw [qc_u_ne _ _ (Or.inl (by decide)), hp2.2.2.2.1, show l.length = 200 by omega]⟩
    rw [l_full hS hp2 (by omega), qc_bds, l_stop hz]
    exact ⟨_, rfl, hz⟩
/-- its goal is told -/
theorem lt_4 (hS : lS q p I0) {j i o a : Nat} (h : lR q p I0 ((4, nI j, 0) :: T) l I) (hT : T.length < 2000) (hN : 2 ≤ N) (hj : j < 840) (hi : I 327 j = nI i) (hl : l[i]? = some (o, a)) : lV w L D R q p I0 0 I T (l.set i (o, l.length)) N 1 (fX12_layAll_l12 w N (I, L, D, R)) := by
  obtain ⟨N, rfl⟩ : ∃ k, N = k + 1 := ⟨N - 1, by omega⟩
  have hp := (l_pop h).1
  have hl2 := h.2.2.2.2.1
  rw [l_rd h hT, if_neg (show ¬ 4 = 0 by decide), if_neg (show ¬ 4 = 1 by decide), if_neg (show ¬ 4 = 2 by decide), if_neg (show ¬ 4 = 3 by decide), if_pos (show 4 = 4 from rfl)]
  have hj1 : qc_inb (4, nI j, (0 : Int32)).2.1 840 = true := qi_inbN hj (by decide)
  have hj2 : (4, nI j, (0 : Int32)).2.1.toNatClampNeg = j := nI_clamp (by omega)
  obtain ⟨I', e1, e2, e3⟩ := l_patch (w := w) (L := L) (D := D) (R := R) hS hp hl
  rw [hj1, qc_gdt, hj2, qc_u_off _ _ (by decide), hi, e1, qc_bds]
  rw [lV, List.length_set]
  exact ⟨fun _ => ⟨N, I', rfl, e2, fun i _ => by rw [e3, qc_u_off _ _ (by decide)], by omega⟩, fun z => by omega⟩
theorem lq_emit (hS : lS q p I0) (h : lQ q p I0 T l I) (o a : Nat) : ∃ I' : qTI, fX12_emit w I L D R (nI o) (nI a) = some ((), I', L, D, R) ∧ lQ q p I0 T (l ++ [(o, a)]) I' ∧ I' 327 = I 327 := by
  by_cases z : l.length < 200
  · obtain ⟨I', e1, e2, e3⟩ := l_emit (w := w) (L := L) (D := D) (R := R) hS (h.1 (by omega)) z o a
    exact ⟨I', e1, ⟨fun _ => e2, fun u => by rw [List.length_append, List.length_singleton] at u; omega⟩, e3⟩
  · refine ⟨qc_u I 291 51 1, ?_, ⟨fun u => by rw [List.length_append, List.length_singleton] at u; omega, fun _ => ?_⟩, qc_u_off _ _ (by decide)⟩
    · by_cases y : l.length = 200
      · exact l_full hS (h.1 (by omega)) y _ _
      · have hz := h.2 (by omega)
        obtain ⟨a1, a2⟩ := lS_i hS hz.1
        obtain ⟨-, s2, -, s4⟩ := hS
        unfold fX12_emit fX12_here
        rw [a1, a2, l_i3, qi_inbN (by omega) (by decide), qc_gdt, nI_clamp (by omega), hz.2.2, qc_bds, if_pos (show nI 200 = 200 from rfl)]
    · by_cases y : l.length = 200
      · have hr := h.1 (by omega)
        exact ⟨lF_u hr.1 _ (by omega), qc_u_at _ _ _ _, by rw [qc_u_ne _ _ (Or.inl (by decide)), hr.2.2.2.1, y]⟩
      · have hz := h.2 (by omega)
        exact ⟨lF_u hz.1 _ (by omega), qc_u_at _ _ _ _, by rw [qc_u_ne _ _ (Or.inl (by decide)), hz.2.2]⟩
theorem lq_be (hS : lS q p I0) (h : lQ q p I0 T l I) {f t : Nat} (hf : f ≤ 4) (ht : t ≤ 4) : ∃ I' : qTI, fX12_becomes w I L D R (nI f) (nI t) = some ((), I', L, D, R) ∧ lQ q p I0 T (l ++ qs_cv f t) I' ∧ I' 327 = I 327 := by
  unfold fX12_becomes qs_cv
  have e : nI f = nI t ↔ f = t := qi_nI_inj' (by omega) (by omega)
  by_cases z : f = t
  · rw [if_pos (e.mpr z), if_pos z, List.append_nil]
    exact ⟨I, rfl, h, rfl⟩
  · rw [if_neg (fun u => z (e.mp u)), if_neg z]
    have eo : (((1600 : Int32) + ((10 : Int32) * nI f)) + nI t) = nI (1600 + 10 * f + t) := by rw [show (1600 : Int32) = nI 1600 from rfl, show (10 : Int32) = nI 10 from rfl, qi_mul, nI_add, nI_add]
    obtain ⟨I', e1, e2, e3⟩ := lq_emit (w := w) (L := L) (D := D) (R := R) hS h (1600 + 10 * f + t) 0
    have e1 : fX12_emit w I L D R (nI (1600 + 10 * f + t)) 0 = some ((), I', L, D, R) := e1
    rw [eo, e1, qc_bds]
    exact ⟨I', rfl, e2, e3⟩
theorem lq_casts (hS : lS q p I0) (h : lQ q p I0 T l I) {f v : Nat} (hf : f ≤ 4) (hv : v ≤ 7) : ∃ I' : qTI, fX12_casts w I L D R (nI f) (nI v) = some ((), I', L, D, R) ∧ lQ q p I0 T (l ++ qs_cv f (qs_ck v) ++ (if v < 4 then [(1650 + v, 0)] else [])) I' ∧ I' 327 = I 327 := by
  have hck : qs_ck v ≤ 4 := by unfold qs_ck; split <;> omega
  have e31 : fX12_casts w I L D R (nI f) (nI v) = fX12_casts_b31 w I L D R (nI v) (nI (qs_ck v)) (nI f) := by
    rcases (show v = 0 ∨ v = 1 ∨ v = 2 ∨ v = 3 ∨ v = 4 ∨ v = 5 ∨ v = 6 ∨ v = 7 by omega) with z | z | z | z | z | z | z | z
    all_goals (subst z; rfl)
  obtain ⟨I1, e1, e2, e3⟩ := lq_be (w := w) (L := L) (D := D) (R := R) hS h hf hck
  rw [e31]
  unfold fX12_casts_b31
  have e4 : (4 : Int32) ≤ nI v ↔ 4 ≤ v := qi_le (a := 4) (by decide) (by omega)
  rw [e1, qc_bds]
  by_cases z : 4 ≤ v
  · rw [if_pos (e4.mpr z), if_neg (by omega), List.append_nil]
    exact ⟨I1, rfl, e2, e3⟩
  · rw [if_neg (fun u => z (e4.mp u)), if_pos (by omega), show (1650 : Int32) + nI v = nI (1650 + v) from nI_add 1650 v]
    obtain ⟨I2, f1, f2, f3⟩ := lq_emit (w := w) (L := L) (D := D) (R := R) hS e2 (1650 + v) 0
    have f1 : fX12_emit w I1 L D R (nI (1650 + v)) 0 = some ((), I2, L, D, R) := f1
    rw [f1, qc_bds]
    exact ⟨I2, rfl, f2, f3.trans e3⟩
theorem lt_5 (hS : lS q p I0) {f v : Nat} (h : lR q p I0 ((5, nI f, nI v) :: T) l I) (hT : T.length < 2000) (hN : 2 ≤ N) (hf : f ≤ 4) (hv : v ≤ 7) : lV w L D R q p I0 0 I T (l ++ qs_cv f (qs_ck v) ++ (if v < 4 then [(1650 + v, 0)] else [])) N 1 (fX12_layAll_l12 w N (I, L, D, R)) := by
  obtain ⟨N, rfl⟩ : ∃ k, N = k + 1 := ⟨N - 1, by omega⟩
  have hp := (l_pop h).1
  have hl := hp.2.2.2.2.1
  obtain ⟨I1, e1, e2, e3⟩ := lq_casts (w := w) (L := L) (D := D) (R := R) hS ⟨fun _ => hp, fun u => by omega⟩ hf hv
  rw [l_rd h hT, if_neg (show ¬ 5 = 0 by decide), if_neg (show ¬ 5 = 1 by decide), if_neg (show ¬ 5 = 2 by decide), if_neg (show ¬ 5 = 3 by decide), if_neg (show ¬ 5 = 4 by decide)]
  have e1 : fX12_casts w (qc_u I 291 52 (nI T.length)) L D R (5, nI f, nI v).2.1 (5, nI f, nI v).2.2 = some ((), I1, L, D, R) := e1
  rw [e1, qc_bds]
  refine ⟨fun z => ⟨N, I1, rfl, e2.1 z, fun i _ => by rw [e3, qc_u_off _ _ (by decide)], by omega⟩, fun z => ?_⟩
  obtain ⟨N, rfl⟩ : ∃ k, N = k + 1 := ⟨N - 1, by omega⟩
  exact ⟨I1, l_stop (e2.2 z), e2.2 z⟩
end
