/-! a token taken, by the class -/
/-- the class's scanner at the token behind p -/
def sX (b : Nat → Nat) (p : Nat) (I : qTI) (D : qTD) (R : qTR) : Prop :=
  I 268 2 = nI (qt_from b p) ∧ I 268 3 = nI (qt_to b p) ∧ I 268 6 = 0 ∧ R 268 1 = qt_m b p ∧ (qt_m b p = 1 ∨ qt_m b p = 3 → I 268 4 = nI (qt_n b p)) ∧ (qt_m b p = 2 → D 268 5 = qt_r b p)
/-- a fault was told -/
def sE (e : Nat × Nat) (I : qTI) (R : qTR) : Prop := I 268 6 = nI e.1 ∧ 1 ≤ e.1 ∧ e.1 ≤ 6 ∧ I 268 7 = nI e.2 ∧ R 268 1 = 4
section
variable {w : qcW} {I : qTI} {L : qTL} {D : qTD} {R : qTR} {b : Nat → Nat} {len : Nat}
theorem qt_word (hB : qt_B b len) {s : Nat} (hs : s ≤ len) (hl : qt_le (b s) = true) : (∀ j, j < qt_le_end b s - s → qt_le (b (s + j)) = true) ∧ qt_le (b (qt_le_end b s)) = false ∧ s < qt_le_end b s ∧ qt_le_end b s ≤ len := by
  have := hB.1
  exact ⟨fun j hj => qt_run_in qt_le b 401 s (s + j) (by omega) (by have : qt_run qt_le b 401 s = qt_le_end b s := rfl; omega), qt_run_end qt_le hB rfl 401 s (by omega), qt_run_1 qt_le b 400 s hl, qt_run_max qt_le hB rfl 401 s hs⟩
theorem cx_tk (hB : qt_B b len) (hT : tpX b len I) (h6 : I 268 6 = 0) {p : Nat} (h3 : I 268 3 = nI p) (hp : p ≤ len) :
    ∃ (I' : qTI) (D' : qTD) (R' : qTR), fX9_take w I L D R = some ((), I', L, D', R') ∧ (∀ a k, a ≠ 268 → I' a k = I a k) ∧ (∀ a k, a ≠ 268 → D' a k = D a k) ∧ (∀ a k, ¬ (a = 268 ∧ k = 1) → R' a k = R a k) ∧
      (qt_m b p ≠ 63 → sX b p I' D' R') ∧ (qt_m b p = 63 → sE (1, qt_from b p) I' R') := by
  have hl := hB.1
  have hf1 := qt_from_le (b := b) p
  have hf2 := qt_from_max hB hp
  have e1 := cx_skip (w := w) (L := L) (D := D) (R := R) hB (qt_from b p - p) qcF p 0 I hT h3 (by omega) (by omega) (by unfold qcF; omega) (fun j hj => qt_run_in qt_bl b 401 p (p + j) (by omega) (by have : qt_run qt_bl b 401 p = qt_from b p := rfl; omega)) (by rw [show p + (qt_from b p - p) = qt_from b p by omega]; exact qt_run_end qt_bl hB rfl 401 p (by omega))
  rw [show p + (qt_from b p - p) = qt_from b p by omega] at e1
  have e0 : fX9_take w I L D R = fX9_take_b50 w (qc_u I 268 3 (nI (qt_from b p))) L D R := by
    unfold fX9_take
    rw [if_pos h6]
    exact e1
  rw [e0]
  unfold sX sE qt_m qt_to qt_n qt_r
  generalize qt_from b p = s at hf1 hf2
  have hT1 : tpX b len (qc_u (qc_u I 268 3 (nI s)) 268 2 (nI s)) := tpX_268 (tpX_268 hT _ _) _ _
  obtain ⟨J, hJ⟩ : ∃ J, J = qc_u (qc_u I 268 3 (nI s)) 268 2 (nI s) := ⟨_, rfl⟩
  have j2 : J 268 2 = nI s := by rw [hJ, qc_u_at]
  have j3 : J 268 3 = nI s := by rw [hJ, qc_u_ne _ _ (Or.inr (by decide)), qc_u_at]
  have j6 : J 268 6 = 0 := by rw [hJ, qc_u_ne _ _ (Or.inr (by decide)), qc_u_ne _ _ (Or.inr (by decide)), h6]
  have jo : ∀ a k, a ≠ 268 → J a k = I a k := fun a k h => by rw [hJ, qc_u_ne _ _ (Or.inl h), qc_u_ne _ _ (Or.inl h)]
  have e2 : fX9_take_b50 w (qc_u I 268 3 (nI s)) L D R = (if qt_i (b s) = (-1 : Int32) then (some ((), J, L, D, (qc_u R 268 1 0))) else if qt_le (b s) = true then (qc_bd (fX9_readWord w J L D R) fun r11 I11 L11 D11 R11 => some ((), I11, L11, D11, R11)) else if qt_fi (b s) = true then (qc_bd (fX9_readFigures w J L D R) fun r10 I10 L10 D10 R10 => some ((), I10, L10, D10, R10)) else (if qt_i (b s) = (36 : Int32) then (qc_bd (fX9_readColumn w J L D R) fun r9 I9 L9 D9 R9 => some ((), I9, L9, D9, R9)) else (qc_bd (fX9_readSign w J L D R) fun r8 I8 L8 D8 R8 => some ((), I8, L8, D8, R8)))) := by
    unfold fX9_take_b50
    rw [qc_u_at I 268 3 (nI s), ← hJ, j2, cx_at hB (by rw [hJ]; exact hT1) (by omega), qc_bds]
    rw [cx_le (qt_le256 hB s), qc_bds, cx_fi (qt_le256 hB s), qc_bds]
  rw [← hJ] at hT1
  rw [e2]
  have hm1 : qt_i (b s) = -1 ↔ b s = 256 := by
    unfold qt_i
    by_cases z : b s = 256
    · rw [if_pos z]; exact ⟨fun _ => z, fun _ => rfl⟩
    · rw [if_neg z]; exact ⟨fun y => absurd y (qi_nI_m1 (by have := qt_le256 hB s; omega)), fun y => absurd y z⟩
  have h36 : qt_i (b s) = 36 ↔ b s = 36 := qt_i_eq (k := 36) (qt_le256 hB s) (by decide)
  by_cases c1 : b s = 256
  · simp only [if_pos c1, if_pos (hm1.mpr c1)]
    refine ⟨_, _, _, rfl, jo, fun _ _ _ => rfl, fun a k h => qc_u_ne _ _ (by omega), fun _ => ⟨j2, j3, j6, qc_u_at _ _ _ _, fun z => by omega, fun z => by omega⟩, fun z => by omega⟩
  simp only [if_neg c1, if_neg (fun z => c1 (hm1.mp z))]
  by_cases c2 : qt_le (b s) = true
  · simp only [if_pos c2]
    obtain ⟨a1, a2, a3, a4⟩ := qt_word hB hf2 c2
    have k1 := cx_word1 (w := w) (L := L) (D := D) (R := R) hB (qt_le_end b s - s) qcF s 0 J hT1 j3 (by omega) (by omega) (by unfold qcF; omega) a1 (by rw [show s + (qt_le_end b s - s) = qt_le_end b s by omega]; exact a2)
    rw [show s + (qt_le_end b s - s) = qt_le_end b s by omega] at k1
    have k2 := cx_word2 (w := w) (L := L) (D := D) (R := R) (I := qc_u J 268 3 (nI (qt_le_end b s))) hB (tpX_268 hT1 _ _) (s := s) (l := qt_le_end b s - s) (by rw [qc_u_ne _ _ (Or.inr (by decide)), j2]) hf2 (by omega) 62 qcF 0 4 (by decide) (by unfold qcF; omega)
    have k3 : fX9_readWord w J L D R = some ((), qc_u J 268 3 (nI (qt_le_end b s)), L, D, qc_u R 268 1 (qt_wm (qt_w b s))) := by
      have : fX9_readWord w J L D R = fX9_readWord_l2 w qcF (J, L, D, R, nI 0) := rfl
      rw [this, k1]
      unfold fX9_readWord_b42
      rw [qc_u_at, qc_u_ne _ _ (Or.inr (by decide)), j2, qi_sub (by omega)]
      rw [qt_wl_wm (by omega) a1] at k2
      exact k2
    rw [k3, qc_bds]
    have hw := qt_wm_0 (qt_w b s)
    refine ⟨_, _, _, rfl, fun a k h => by rw [qc_u_ne _ _ (Or.inl h)]; exact jo a k h, fun _ _ _ => rfl, fun a k h => qc_u_ne _ _ (by omega), fun _ => ⟨by rw [qc_u_ne _ _ (Or.inr (by decide)), j2], qc_u_at _ _ _ _, by rw [qc_u_ne _ _ (Or.inr (by decide)), j6], qc_u_at _ _ _ _, fun z => by omega, fun z => by omega⟩, fun z => by omega⟩
  simp only [if_neg c2]
  by_cases c3 : qt_fi (b s) = true
  · simp only [if_pos c3]
    obtain ⟨I', D', m, k1, k2, k3, k4, k5⟩ := cx_figs (w := w) (L := L) (D := D) (R := R) hB hT1 hf2 j2 j3 j6 c3
    rw [k1, qc_bds]
    have n36 : b s ≠ 36 := fun z => by rw [z] at c3; cases c3
    simp only [if_neg n36]
    refine ⟨_, _, _, rfl, fun a k h => (k2 a k h).trans (jo a k h), k3, fun a k h => qc_u_ne _ _ (by omega), ?_⟩
    rcases k5 with ⟨z1, z2, z3, z4, z5, z6⟩ | ⟨z1, z2, z3, z4, z5, z6⟩ | ⟨z1, z3, z4, z5⟩
    · simp only [if_pos z1, if_pos z2]
      exact ⟨fun _ => ⟨k4, z4, z5, by rw [z3]; exact qc_u_at _ _ _ _, fun z => by omega, fun _ => z6⟩, fun z => by omega⟩
    · have z1' : ¬ qt_isR b s = true := by rw [z1]; decide
      simp only [if_neg z1', if_pos z2]
      exact ⟨fun _ => ⟨k4, z4, z5, by rw [z3]; exact qc_u_at _ _ _ _, fun _ => z6, fun z => by omega⟩, fun z => by omega⟩
    · have e63 : (if qt_isR b s = true then if (qt_f1 b s - s) + (qt_f2 b s - (qt_f1 b s + 1)) ≤ 9 then 2 else 63 else if qt_nv b s < 2147483648 then 1 else 63) = 63 := by
        rcases z1 with ⟨y1, y2⟩ | ⟨y1, y2⟩
        · rw [if_pos y1, if_neg y2]
        · rw [if_neg (by rw [y1]; decide), if_neg y2]
      rw [e63]
      exact ⟨fun z => absurd rfl z, fun _ => ⟨z4, by decide, by decide, z5, by rw [z3]; exact qc_u_at _ _ _ _⟩⟩
  simp only [if_neg c3]
  by_cases c4 : b s = 36
  · simp only [if_pos c4, if_pos (h36.mpr c4)]
    unfold fX9_readColumn
    rw [j2, qi_s1, cx_at hB hT1 (by omega), qc_bds, cx_fi (qt_le256 hB _), qc_bds]
    by_cases c5 : qt_fi (b (s + 1)) = true
    · have hd := qt_fi_iff.mp c5
      simp only [if_pos c5]
      rw [qc_bds]
      have e48 : qt_i (b (s + 1)) - 48 = nI (b (s + 1) - 48) := by
        unfold qt_i
        rw [if_neg (by omega), show (48 : Int32) = nI 48 by decide, qi_sub (by omega)]
      rw [e48]
      refine ⟨_, _, _, rfl, fun a k h => by rw [qc_u_ne _ _ (Or.inl h), qc_u_ne _ _ (Or.inl h)]; exact jo a k h, fun _ _ _ => rfl, fun a k h => qc_u_ne _ _ (by omega), fun _ => ⟨?_, ?_, ?_, qc_u_at _ _ _ _, fun _ => ?_, fun z => by omega⟩, fun z => by omega⟩
      · rw [qc_u_ne _ _ (Or.inr (by decide)), qc_u_ne _ _ (Or.inr (by decide)), j2]
      · rw [qc_u_at, qc_u_ne _ _ (Or.inr (by decide)), j2]
        exact nI_add s 2
      · rw [qc_u_ne _ _ (Or.inr (by decide)), qc_u_ne _ _ (Or.inr (by decide)), j6]
      · rw [qc_u_ne _ _ (Or.inr (by decide)), qc_u_at]
    · simp only [if_neg c5]
      rw [j2, cx_refuse j6, qc_bds, qc_bds]
      refine ⟨_, _, _, rfl, fun a k h => by rw [qc_u_ne _ _ (Or.inl h), qc_u_ne _ _ (Or.inl h)]; exact jo a k h, fun _ _ _ => rfl, fun a k h => qc_u_ne _ _ (by omega), fun z => absurd rfl z, fun _ => ⟨by rw [qc_u_ne _ _ (Or.inr (by decide)), qc_u_at]; rfl, by decide, by decide, qc_u_at _ _ _ _, qc_u_at _ _ _ _⟩⟩
  simp only [if_neg c4, if_neg (fun z => c4 (h36.mp z))]
  have k1 := cx_sign (w := w) (L := L) (D := D) (R := R) hB hT1 j2 hf2 62 qcF 0 0 (by decide) (by unfold qcF; omega) (by decide)
  have k2 : fX9_readSign w J L D R = fX9_readSign_l6 w qcF (J, L, D, R, 0, nI 0) := rfl
  rw [k2, k1]
  obtain ⟨g1, g2⟩ := qt_sl_sg b s (Bool.eq_false_iff.mpr c2)
  by_cases c5 : (qt_sg (b s) (b (s + 1)) (b (s + 2))).1 = 63
  · rw [if_pos (g1 c5), cx_refuse j6, qc_bds, qc_bds]
    refine ⟨_, _, _, rfl, fun a k h => by rw [qc_u_ne _ _ (Or.inl h), qc_u_ne _ _ (Or.inl h)]; exact jo a k h, fun _ _ _ => rfl, fun a k h => qc_u_ne _ _ (by omega), fun z => absurd c5 z, fun _ => ⟨by rw [qc_u_ne _ _ (Or.inr (by decide)), qc_u_at]; rfl, by decide, by decide, qc_u_at _ _ _ _, qc_u_at _ _ _ _⟩⟩
  · obtain ⟨g3, g4⟩ := g2 c5
    have := (qt_sg_m (b s) (b (s + 1)) (b (s + 2)))
    rw [if_neg (by omega), qc_bds, g4, g3]
    refine ⟨_, _, _, rfl, fun a k h => by rw [qc_u_ne _ _ (Or.inl h)]; exact jo a k h, fun _ _ _ => rfl, fun a k h => qc_u_ne _ _ (by omega), fun _ => ⟨by rw [qc_u_ne _ _ (Or.inr (by decide)), j2], qc_u_at _ _ _ _, by rw [qc_u_ne _ _ (Or.inr (by decide)), j6], qc_u_at _ _ _ _, fun z => by omega, fun z => by omega⟩, fun z => absurd z c5⟩
theorem cx_tk0 (h6 : I 268 6 ≠ 0) : fX9_take w I L D R = some ((), I, L, D, R) := by
  unfold fX9_take
  rw [if_neg h6]
end
