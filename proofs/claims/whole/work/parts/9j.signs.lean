/-! signs -/
def qt_sl (b : Nat → Nat) (s : Nat) : Nat → Nat → Nat → Nat
  | 0, _, cur => cur
  | n + 1, i, cur => qt_sl b s n (i + 1) (if (qt_tx cur).length < (qt_tx i).length ∧ qt_hm b s (qt_tx i) = true then i else cur)
theorem qt_sl_inv (b : Nat → Nat) (s : Nat) : ∀ n i cur, i + n = 62 → (cur < 62 ∧ (cur = 0 ∨ (qt_hm b s (qt_tx cur) = true ∧ 0 < (qt_tx cur).length))) → (∀ j, j < i → qt_hm b s (qt_tx j) = true → (qt_tx j).length ≤ (qt_tx cur).length) →
    (qt_sl b s n i cur < 62 ∧ (qt_sl b s n i cur = 0 ∨ (qt_hm b s (qt_tx (qt_sl b s n i cur)) = true ∧ 0 < (qt_tx (qt_sl b s n i cur)).length))) ∧ ∀ j, j < 62 → qt_hm b s (qt_tx j) = true → (qt_tx j).length ≤ (qt_tx (qt_sl b s n i cur)).length
  | 0, i, cur, hi, h1, h2 => ⟨h1, fun j hj => h2 j (by omega)⟩
  | n + 1, i, cur, hi, h1, h2 => by
    unfold qt_sl
    by_cases z : (qt_tx cur).length < (qt_tx i).length ∧ qt_hm b s (qt_tx i) = true
    · rw [if_pos z]
      refine qt_sl_inv b s n (i + 1) i (by omega) ⟨by omega, Or.inr ⟨z.2, by omega⟩⟩ (fun j hj hm => ?_)
      by_cases y : j = i
      · rw [y]; exact Nat.le_refl _
      · have := h2 j (by omega) hm; omega
    · rw [if_neg z]
      refine qt_sl_inv b s n (i + 1) cur (by omega) h1 (fun j hj hm => ?_)
      by_cases y : j = i
      · rw [y] at hm ⊢
        by_cases x : (qt_tx cur).length < (qt_tx i).length
        · exact absurd ⟨x, hm⟩ z
        · omega
      · exact h2 j (by omega) hm
theorem qt_tx_inj : ∀ i, i < 62 → ∀ j, j < 62 → 0 < (qt_tx i).length → qt_tx i = qt_tx j → i = j := by decide
theorem qt_sL_tx : ∀ q ∈ qt_sL, qt_tx q.2 = [q.1] ∧ q.2 < 62 ∧ 36 ≤ q.2 ∧ q.1 ≠ 60 ∧ q.1 ≠ 62 ∧ q.1 ≠ 33 ∧ q.1 ≠ 58 := by decide
theorem qt_lk_mem {l : List (Nat × Nat)} {v : Nat} {m : Nat} (h : l.lookup v = some m) : (v, m) ∈ l := by
  induction l with
  | nil => cases h
  | cons q l ih =>
    obtain ⟨k, n⟩ := q
    rw [List.lookup_cons] at h
    by_cases z : v = k
    · subst z
      rw [beq_self_eq_true] at h
      cases h
      exact List.mem_cons_self
    · rw [beq_false_of_ne z] at h
      exact List.mem_cons_of_mem _ (ih h)
section
variable {b : Nat → Nat} {len s : Nat}
theorem qt_hm1 {m c : Nat} (ht : qt_tx m = [c]) : qt_hm b s (qt_tx m) = true ↔ b s = c := by
  rw [ht]
  show (Nat.beq (b s) c && true) = true ↔ _
  rw [Bool.and_true, qs_beq]
theorem qt_hm2 {m c d : Nat} (ht : qt_tx m = [c, d]) : qt_hm b s (qt_tx m) = true ↔ b s = c ∧ b (s + 1) = d := by
  rw [ht]
  show (Nat.beq (b s) c && (Nat.beq (b (s + 1)) d && true)) = true ↔ _
  rw [Bool.and_true, Bool.and_eq_true_iff, qs_beq, qs_beq]
theorem qt_hm3 {m c d e : Nat} (ht : qt_tx m = [c, d, e]) : qt_hm b s (qt_tx m) = true ↔ b s = c ∧ b (s + 1) = d ∧ b (s + 2) = e := by
  rw [ht]
  show (Nat.beq (b s) c && (Nat.beq (b (s + 1)) d && (Nat.beq (b (s + 2)) e && true))) = true ↔ _
  rw [Bool.and_true, Bool.and_eq_true_iff, Bool.and_eq_true_iff, qs_beq, qs_beq, qs_beq]
theorem qt_sg_1 (c d e : Nat) (h : c ≠ 60 ∧ c ≠ 62 ∧ c ≠ 33 ∧ c ≠ 58) : qt_sg c d e = ((qt_sL.lookup c).getD 63, 1) := by
  unfold qt_sg
  rw [if_neg h.1, if_neg h.2.1, if_neg h.2.2.1, if_neg h.2.2.2]
/-- the sign that is told fits -/
theorem qt_sg_ok (b : Nat → Nat) (s : Nat) : (qt_sg (b s) (b (s + 1)) (b (s + 2))).1 = 63 ∨ ((qt_sg (b s) (b (s + 1)) (b (s + 2))).1 < 62 ∧ 36 ≤ (qt_sg (b s) (b (s + 1)) (b (s + 2))).1 ∧ qt_hm b s (qt_tx (qt_sg (b s) (b (s + 1)) (b (s + 2))).1) = true ∧ (qt_tx (qt_sg (b s) (b (s + 1)) (b (s + 2))).1).length = (qt_sg (b s) (b (s + 1)) (b (s + 2))).2) := by
  by_cases c1 : b s = 60
  · unfold qt_sg
    rw [if_pos c1]
    by_cases d1 : b (s + 1) = 61
    · rw [if_pos d1]; exact Or.inr ⟨by decide, by decide, (qt_hm2 rfl).mpr ⟨c1, d1⟩, rfl⟩
    rw [if_neg d1]
    by_cases d2 : b (s + 1) = 60
    · rw [if_pos d2]; exact Or.inr ⟨by decide, by decide, (qt_hm2 rfl).mpr ⟨c1, d2⟩, rfl⟩
    rw [if_neg d2]
    exact Or.inr ⟨by decide, by decide, (qt_hm1 rfl).mpr c1, rfl⟩
  by_cases c2 : b s = 62
  · unfold qt_sg
    rw [if_neg c1, if_pos c2]
    by_cases d1 : b (s + 1) = 61
    · rw [if_pos d1]; exact Or.inr ⟨by decide, by decide, (qt_hm2 rfl).mpr ⟨c2, d1⟩, rfl⟩
    rw [if_neg d1]
    by_cases d2 : b (s + 1) = 62
    · rw [if_pos d2]
      by_cases e2 : b (s + 2) = 62
      · rw [if_pos e2]; exact Or.inr ⟨by decide, by decide, (qt_hm3 rfl).mpr ⟨c2, d2, e2⟩, rfl⟩
      · rw [if_neg e2]; exact Or.inr ⟨by decide, by decide, (qt_hm2 rfl).mpr ⟨c2, d2⟩, rfl⟩
    rw [if_neg d2]
    exact Or.inr ⟨by decide, by decide, (qt_hm1 rfl).mpr c2, rfl⟩
  by_cases c3 : b s = 33
  · unfold qt_sg
    rw [if_neg c1, if_neg c2, if_pos c3]
    by_cases d1 : b (s + 1) = 61
    · rw [if_pos d1]; exact Or.inr ⟨by decide, by decide, (qt_hm2 rfl).mpr ⟨c3, d1⟩, rfl⟩
    rw [if_neg d1]
    exact Or.inl rfl
  by_cases c4 : b s = 58
  · unfold qt_sg
    rw [if_neg c1, if_neg c2, if_neg c3, if_pos c4]
    by_cases d1 : b (s + 1) = 61
    · rw [if_pos d1]; exact Or.inr ⟨by decide, by decide, (qt_hm2 rfl).mpr ⟨c4, d1⟩, rfl⟩
    rw [if_neg d1]
    exact Or.inr ⟨by decide, by decide, (qt_hm1 rfl).mpr c4, rfl⟩
  rw [qt_sg_1 _ _ _ ⟨c1, c2, c3, c4⟩]
  cases h : qt_sL.lookup (b s) with
  | none => exact Or.inl rfl
  | some m =>
    obtain ⟨a1, a2, a3, -⟩ := qt_sL_tx _ (qt_lk_mem h)
    exact Or.inr ⟨a2, a3, (qt_hm1 a1).mpr rfl, by show (qt_tx m).length = 1; rw [show qt_tx m = [b s] from a1]; rfl⟩
/-- and no longer one does -/
theorem qt_sg_max (b : Nat → Nat) (s : Nat) (hl : qt_le (b s) = false) {j : Nat} (hj : j < 62) (hm : qt_hm b s (qt_tx j) = true) (h0 : 0 < (qt_tx j).length) : (qt_sg (b s) (b (s + 1)) (b (s + 2))).1 ≠ 63 ∧ (qt_tx j).length ≤ (qt_sg (b s) (b (s + 1)) (b (s + 2))).2 := by
  have h36 : 36 ≤ j := by
    by_cases z : 5 ≤ j ∧ j ≤ 35
    · obtain ⟨a1, -, -, -, -⟩ := (qt_tx_w j hj).1 z
      have e := (qt_hm_iff b _ s).mp hm 0 h0
      rw [Nat.add_zero] at e
      have : qt_le ((qt_tx j).getD 0 0) = true := by
        cases ht : qt_tx j with
        | nil => rw [ht] at h0; cases h0
        | cons c cs =>
          rw [ht] at a1
          exact (Bool.and_eq_true_iff.mp (show (qt_le c && qt_al cs) = true from a1)).1
      rw [← e, hl] at this
      cases this
    · by_cases y : j < 5
      · exfalso
        have : ∀ j, j < 5 → (qt_tx j).length = 0 := by decide
        have := this j y
        omega
      · omega
  have key : ∀ m c, qt_tx m = [c] → (c, m) ∈ qt_sL → qt_hm b s (qt_tx m) = true → (qt_sg (b s) (b (s + 1)) (b (s + 2))).1 ≠ 63 ∧ (qt_tx m).length ≤ (qt_sg (b s) (b (s + 1)) (b (s + 2))).2 := by
    intro m c ht hq hm
    have e := (qt_hm1 ht).mp hm
    obtain ⟨a1, a2, a3, a4⟩ := qt_sL_tx _ hq
    rw [qt_sg_1 _ _ _ (by rw [e]; exact a4), ht, e]
    refine ⟨?_, Nat.le_refl _⟩
    have : ∀ q ∈ qt_sL, (qt_sL.lookup q.1).getD 63 ≠ 63 := by decide
    exact this _ hq
  have : j = 36 ∨ j = 37 ∨ j = 38 ∨ j = 39 ∨ j = 40 ∨ j = 41 ∨ j = 42 ∨ j = 43 ∨ j = 44 ∨ j = 45 ∨ j = 46 ∨ j = 47 ∨ j = 48 ∨ j = 49 ∨ j = 50 ∨ j = 51 ∨ j = 52 ∨ j = 53 ∨ j = 54 ∨ j = 55 ∨ j = 56 ∨ j = 57 ∨ j = 58 ∨ j = 59 ∨ j = 60 ∨ j = 61 := by omega
  rcases this with rfl | rfl | rfl | rfl | rfl | rfl | rfl | rfl | rfl | rfl | rfl | rfl | rfl | rfl | rfl | rfl | rfl | rfl | rfl | rfl | rfl | rfl | rfl | rfl | rfl | rfl
  · exact key 36 61 rfl (by decide) hm
  · obtain ⟨e, e2⟩ := (qt_hm2 (c := 33) (d := 61) rfl).mp hm
    rw [e, e2]
    unfold qt_sg
    simp only [if_pos, if_neg, Nat.reduceEqDiff, if_true, if_false, reduceIte]
    first | exact ⟨by decide, by decide⟩ | (repeat' split) <;> exact ⟨by decide, by decide⟩
  · have e := (qt_hm1 (c := 60) rfl).mp hm
    rw [e]
    unfold qt_sg
    simp only [if_pos, if_neg, Nat.reduceEqDiff, if_true, if_false, reduceIte]
    first | exact ⟨by decide, by decide⟩ | (repeat' split) <;> exact ⟨by decide, by decide⟩
  · have e := (qt_hm1 (c := 62) rfl).mp hm
    rw [e]
    unfold qt_sg
    simp only [if_pos, if_neg, Nat.reduceEqDiff, if_true, if_false, reduceIte]
    first | exact ⟨by decide, by decide⟩ | (repeat' split) <;> exact ⟨by decide, by decide⟩
  · obtain ⟨e, e2⟩ := (qt_hm2 (c := 60) (d := 61) rfl).mp hm
    rw [e, e2]
    unfold qt_sg
    simp only [if_pos, if_neg, Nat.reduceEqDiff, if_true, if_false, reduceIte]
    first | exact ⟨by decide, by decide⟩ | (repeat' split) <;> exact ⟨by decide, by decide⟩
  · obtain ⟨e, e2⟩ := (qt_hm2 (c := 62) (d := 61) rfl).mp hm
    rw [e, e2]
    unfold qt_sg
    simp only [if_pos, if_neg, Nat.reduceEqDiff, if_true, if_false, reduceIte]
    first | exact ⟨by decide, by decide⟩ | (repeat' split) <;> exact ⟨by decide, by decide⟩
  · exact key 42 38 rfl (by decide) hm
  · exact key 43 124 rfl (by decide) hm
  · exact key 44 94 rfl (by decide) hm
  · obtain ⟨e, e2⟩ := (qt_hm2 (c := 60) (d := 60) rfl).mp hm
    rw [e, e2]
    unfold qt_sg
    simp only [if_pos, if_neg, Nat.reduceEqDiff, if_true, if_false, reduceIte]
    first | exact ⟨by decide, by decide⟩ | (repeat' split) <;> exact ⟨by decide, by decide⟩
  · obtain ⟨e, e2⟩ := (qt_hm2 (c := 62) (d := 62) rfl).mp hm
    rw [e, e2]
    unfold qt_sg
    simp only [if_pos, if_neg, Nat.reduceEqDiff, if_true, if_false, reduceIte]
    first | exact ⟨by decide, by decide⟩ | (repeat' split) <;> exact ⟨by decide, by decide⟩
  · obtain ⟨e, e2, e3⟩ := (qt_hm3 (c := 62) (d := 62) (e := 62) rfl).mp hm
    rw [e, e2, e3]
    unfold qt_sg
    simp only [if_pos, if_neg, Nat.reduceEqDiff, if_true, if_false, reduceIte]
    first | exact ⟨by decide, by decide⟩ | (repeat' split) <;> exact ⟨by decide, by decide⟩
  · exact key 48 43 rfl (by decide) hm
  · exact key 49 45 rfl (by decide) hm
  · exact key 50 42 rfl (by decide) hm
  · exact key 51 47 rfl (by decide) hm
  · exact key 52 37 rfl (by decide) hm
  · exact key 53 126 rfl (by decide) hm
  · exact key 54 40 rfl (by decide) hm
  · exact key 55 41 rfl (by decide) hm
  · exact key 56 91 rfl (by decide) hm
  · exact key 57 93 rfl (by decide) hm
  · exact key 58 44 rfl (by decide) hm
  · exact key 59 63 rfl (by decide) hm
  · have e := (qt_hm1 (c := 58) rfl).mp hm
    rw [e]
    unfold qt_sg
    simp only [if_pos, if_neg, Nat.reduceEqDiff, if_true, if_false, reduceIte]
    first | exact ⟨by decide, by decide⟩ | (repeat' split) <;> exact ⟨by decide, by decide⟩
  · obtain ⟨e, e2⟩ := (qt_hm2 (c := 58) (d := 61) rfl).mp hm
    rw [e, e2]
    unfold qt_sg
    simp only [if_pos, if_neg, Nat.reduceEqDiff, if_true, if_false, reduceIte]
    first | exact ⟨by decide, by decide⟩ | (repeat' split) <;> exact ⟨by decide, by decide⟩
theorem qt_sl_sg (b : Nat → Nat) (s : Nat) (hl : qt_le (b s) = false) : ((qt_sg (b s) (b (s + 1)) (b (s + 2))).1 = 63 → qt_sl b s 62 0 0 = 0) ∧ ((qt_sg (b s) (b (s + 1)) (b (s + 2))).1 ≠ 63 → qt_sl b s 62 0 0 = (qt_sg (b s) (b (s + 1)) (b (s + 2))).1 ∧ (qt_tx (qt_sl b s 62 0 0)).length = (qt_sg (b s) (b (s + 1)) (b (s + 2))).2) := by
  obtain ⟨⟨i1, i2⟩, i3⟩ := qt_sl_inv b s 62 0 0 (by decide) ⟨by decide, Or.inl rfl⟩ (fun j hj => absurd hj (Nat.not_lt_zero j))
  generalize qt_sl b s 62 0 0 = f at i1 i2 i3
  constructor
  · intro h
    rcases i2 with z | ⟨z1, z2⟩
    · exact z
    · exact absurd h (qt_sg_max b s hl i1 z1 z2).1
  · intro h
    rcases qt_sg_ok b s with z | ⟨a1, a2, a3, a4⟩
    · exact absurd z h
    · have h1 := i3 _ a1 a3
      have hpos : ∀ m, m < 62 → 36 ≤ m → 0 < (qt_tx m).length := by decide
      have h0 := hpos _ a1 a2
      rcases i2 with z | ⟨z1, z2⟩
      · rw [z] at h1
        have : (qt_tx 0).length = 0 := rfl
        omega
      · have h2 := (qt_sg_max b s hl i1 z1 z2).2
        have e : (qt_tx f).length = (qt_tx (qt_sg (b s) (b (s + 1)) (b (s + 2))).1).length := by omega
        have := qt_tx_inj f i1 _ a1 z2 (List.ext_getElem? (fun i => by
          by_cases z : i < (qt_tx f).length
          · have e1 := (qt_hm_iff b _ s).mp z1 i z
            have e2 := (qt_hm_iff b _ s).mp a3 i (by omega)
            rw [List.getD_eq_getElem?_getD] at e1 e2
            rw [List.getElem?_eq_getElem z] at e1 ⊢
            rw [List.getElem?_eq_getElem (by omega)] at e2 ⊢
            rw [Option.getD_some] at e1 e2
            rw [← e1, ← e2]
          · rw [List.getElem?_eq_none (by omega), List.getElem?_eq_none (by omega)]))
        exact ⟨this, by omega⟩
end
section
variable {w : qcW} {I : qTI} {L : qTL} {D : qTD} {R : qTR} {b : Nat → Nat} {len : Nat}
theorem cx_sign (hB : qt_B b len) (hT : tpX b len I) {s : Nat} (h2 : I 268 2 = nI s) (hs : s ≤ len) : ∀ (n N i cur : Nat), i + n = 62 → n < N → cur < 62 → fX9_readSign_l6 w N (I, L, D, R, cur, nI i) = if qt_sl b s n i cur = 0 then (qc_bd (fX9_refuse w I L D R (1 : Int32) (nI s)) fun r5 I5 L5 D5 R5 => some ((), I5, L5, D5, R5)) else some ((), qc_u I 268 3 (nI (s + (qt_tx (qt_sl b s n i cur)).length)), L, D, qc_u R 268 1 (qt_sl b s n i cur))
  | n, 0, i, cur, _, h, _ => by omega
  | 0, N + 1, i, cur, hi, _, hc => by
    obtain ⟨a1, a2, a3, a4⟩ := qt_tx_ok cur hc
    rw [fX9_readSign_l6_s]
    unfold fX9_readSign_b6
    rw [show qc_l62 cur = true from Nat.ble_eq.mpr hc, qc_gdt, if_pos ((qi_le (by omega) (by omega)).mpr (by omega)), h2, a2, nI_add]
    rfl
  | n + 1, N + 1, i, cur, hi, hN, hc => by
    obtain ⟨a1, a2, a3, a4⟩ := qt_tx_ok i (by omega)
    obtain ⟨c1, c2, c3, c4⟩ := qt_tx_ok cur hc
    rw [fX9_readSign_l6_s]
    unfold fX9_readSign_b6 fX9_readSign_b58
    rw [show qc_l62 cur = true from Nat.ble_eq.mpr hc, qc_gdt, if_neg (fun z => by have := (qi_le (by omega) (by omega)).mp z; omega), qi_inbN (show i < 62 by omega) (by decide), qc_gdt, nI_clamp (by omega), a2, c2, h2, cx_hasAt hB hT (by omega) hs, qc_bds, qc_gdt, qi_s1]
    unfold qt_sl
    by_cases z1 : (qt_tx i).length ≤ (qt_tx cur).length
    · have e : (if (qt_tx cur).length < (qt_tx i).length ∧ qt_hm b s (qt_tx i) = true then i else cur) = cur := if_neg (fun z => by omega)
      rw [if_pos ((qi_le (by omega) (by omega)).mpr z1), e]
      exact cx_sign hB hT h2 hs n N (i + 1) cur (by omega) (by omega) hc
    · rw [if_neg (fun z => z1 ((qi_le (by omega) (by omega)).mp z))]
      by_cases z2 : qt_hm b s (qt_tx i) = true
      · have e : (if (qt_tx cur).length < (qt_tx i).length ∧ qt_hm b s (qt_tx i) = true then i else cur) = i := if_pos ⟨by omega, z2⟩
        rw [if_pos z2, e, show qc_l62 i = true from Nat.ble_eq.mpr (by omega), qc_gdt]
        exact cx_sign hB hT h2 hs n N (i + 1) i (by omega) (by omega) (by omega)
      · have e : (if (qt_tx cur).length < (qt_tx i).length ∧ qt_hm b s (qt_tx i) = true then i else cur) = cur := if_neg (fun z => z2 z.2)
        rw [if_neg z2, e]
        exact cx_sign hB hT h2 hs n N (i + 1) cur (by omega) (by omega) hc
end
