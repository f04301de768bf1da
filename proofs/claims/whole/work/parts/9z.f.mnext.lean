/-! a token taken, by the reference -/
def qt_kd (m : Nat) : Nat := if m = 0 then 0 else if m = 1 then 2 else if m = 2 then 3 else if m = 3 then 4 else if m ≤ 35 then 1 else 5
/-- the reference's scanner at the token behind p -/
def sM (b : Nat → Nat) (p : Nat) (I : qTI) (L : qTL) (D : qTD) : Prop :=
  I 291 10 = nI (qt_from b p) ∧ I 291 11 = nI (qt_to b p) ∧ I 291 15 = 0 ∧ I 291 9 = nI (qt_kd (qt_m b p)) ∧ (qt_le (b (qt_from b p)) = true → L 291 12 = qt_wo b (qt_from b p) (qt_to b p - qt_from b p)) ∧ (qt_m b p = 1 ∨ qt_m b p = 3 → I 291 13 = nI (qt_n b p)) ∧ (qt_m b p = 2 → D 291 14 = qt_r b p)
/-- a fault was told -/
def sF (e : Nat × Nat) (I : qTI) : Prop := I 291 15 = nI e.1 ∧ 1 ≤ e.1 ∧ e.1 ≤ 6 ∧ I 291 16 = nI e.2
theorem qt_sg_k (c d e : Nat) : (qt_sg c d e).1 ≠ 63 → 36 ≤ (qt_sg c d e).1 ∧ (qt_sg c d e).1 ≤ 61 := by
  have h := qt_lk 36 63 63 (by decide) qt_sL (by decide) c
  have h2 : ∀ l : List (Nat × Nat), (∀ q ∈ l, q.2 ≤ 61) → (l.lookup c).getD 63 ≠ 63 → (l.lookup c).getD 63 ≤ 61 := by
    intro l
    induction l with
    | nil => intro _ z; exact absurd rfl z
    | cons q l ih =>
      intro hl
      rw [List.lookup_cons]
      by_cases z : (c == q.1) = true
      · rw [z]; exact fun _ => hl q (List.mem_cons_self ..)
      · rw [Bool.eq_false_iff.mpr z]; exact ih (fun q hq => hl q (List.mem_cons_of_mem _ hq))
  have h3 := h2 qt_sL (by decide)
  unfold qt_sg
  repeat' split
  all_goals (simp only []; omega)
section
variable {w : qcW} {I : qTI} {L : qTL} {D : qTD} {R : qTR} {b : Nat → Nat} {len : Nat}
theorem mx_sign (hB : qt_B b len) (hT : tpM b len I) {s : Nat} (hs : s < len) (h10 : I 291 10 = nI s) (h11 : I 291 11 = nI (s + 1)) (h15 : I 291 15 = 0) :
    ∃ I' : qTI, fX12_sign w I L D R (qt_i (b s)) = some ((), I', L, D, R) ∧ frM I I' ∧ I' 291 10 = nI s ∧
      ((qt_sg (b s) (b (s + 1)) (b (s + 2))).1 ≠ 63 → I' 291 9 = 5 ∧ I' 291 11 = nI (s + (qt_sg (b s) (b (s + 1)) (b (s + 2))).2) ∧ I' 291 15 = 0) ∧ ((qt_sg (b s) (b (s + 1)) (b (s + 2))).1 = 63 → sF (1, s) I') := by
  have hl := hB.1
  have h5 : tpM b len (qc_u I 291 9 5) := tpM_u hT (by decide) _
  obtain ⟨J, hJ⟩ : ∃ J, J = qc_u I 291 9 5 := ⟨_, rfl⟩
  have j9 : J 291 9 = 5 := by rw [hJ, qc_u_at]
  have j10 : J 291 10 = nI s := by rw [hJ, qc_u_ne _ _ (Or.inr (by decide)), h10]
  have j11 : J 291 11 = nI (s + 1) := by rw [hJ, qc_u_ne _ _ (Or.inr (by decide)), h11]
  have j15 : J 291 15 = 0 := by rw [hJ, qc_u_ne _ _ (Or.inr (by decide)), h15]
  have jf : frM I J := by rw [hJ]; exact frM_u (by decide) _
  rw [← hJ] at h5
  have ev : ∀ {k : Nat}, k < 256 → (qt_i (b s) = nI k ↔ b s = k) := fun hk => qt_i_eq (qt_le256 hB s) hk
  have ew : ∀ {k : Nat}, k < 256 → (qt_i (b (s + 1)) = nI k ↔ b (s + 1) = k) := fun hk => qt_i_eq (qt_le256 hB _) hk
  have ez : ∀ {k : Nat}, k < 256 → (qt_i (b (s + 2)) = nI k ↔ b (s + 2) = k) := fun hk => qt_i_eq (qt_le256 hB _) hk
  have e60 : qt_i (b s) = 60 ↔ b s = 60 := ev (k := 60) (by decide)
  have e62 : qt_i (b s) = 62 ↔ b s = 62 := ev (k := 62) (by decide)
  have e33 : qt_i (b s) = 33 ↔ b s = 33 := ev (k := 33) (by decide)
  have e58 : qt_i (b s) = 58 ↔ b s = 58 := ev (k := 58) (by decide)
  have e43 : qt_i (b s) = 43 ↔ b s = 43 := ev (k := 43) (by decide)
  have e45 : qt_i (b s) = 45 ↔ b s = 45 := ev (k := 45) (by decide)
  have e42 : qt_i (b s) = 42 ↔ b s = 42 := ev (k := 42) (by decide)
  have e47 : qt_i (b s) = 47 ↔ b s = 47 := ev (k := 47) (by decide)
  have e37 : qt_i (b s) = 37 ↔ b s = 37 := ev (k := 37) (by decide)
  have e38 : qt_i (b s) = 38 ↔ b s = 38 := ev (k := 38) (by decide)
  have e124 : qt_i (b s) = 124 ↔ b s = 124 := ev (k := 124) (by decide)
  have e94 : qt_i (b s) = 94 ↔ b s = 94 := ev (k := 94) (by decide)
  have e126 : qt_i (b s) = 126 ↔ b s = 126 := ev (k := 126) (by decide)
  have e40 : qt_i (b s) = 40 ↔ b s = 40 := ev (k := 40) (by decide)
  have e41 : qt_i (b s) = 41 ↔ b s = 41 := ev (k := 41) (by decide)
  have e91 : qt_i (b s) = 91 ↔ b s = 91 := ev (k := 91) (by decide)
  have e93 : qt_i (b s) = 93 ↔ b s = 93 := ev (k := 93) (by decide)
  have e44 : qt_i (b s) = 44 ↔ b s = 44 := ev (k := 44) (by decide)
  have e61 : qt_i (b s) = 61 ↔ b s = 61 := ev (k := 61) (by decide)
  have e63 : qt_i (b s) = 63 ↔ b s = 63 := ev (k := 63) (by decide)
  have f60 : qt_i (b (s + 1)) = 60 ↔ b (s + 1) = 60 := ew (k := 60) (by decide)
  have f61 : qt_i (b (s + 1)) = 61 ↔ b (s + 1) = 61 := ew (k := 61) (by decide)
  have f62 : qt_i (b (s + 1)) = 62 ↔ b (s + 1) = 62 := ew (k := 62) (by decide)
  have g62 : qt_i (b (s + 2)) = 62 ↔ b (s + 2) = 62 := ez (k := 62) (by decide)
  unfold fX12_sign
  rw [← hJ, j11, mx_at hB h5 (by omega), qc_bds]
  -- ends: unchanged, or told
  have good : ∀ n : Nat, ∀ v : Int32, v = nI (s + n) → frM I (qc_u J 291 11 v) ∧ (qc_u J 291 11 v) 291 10 = nI s ∧ (qc_u J 291 11 v) 291 9 = 5 ∧ (qc_u J 291 11 v) 291 11 = nI (s + n) ∧ (qc_u J 291 11 v) 291 15 = 0 := fun n v hv =>
    ⟨frM_tr jf (frM_u (by decide) _), by rw [qc_u_ne _ _ (Or.inr (by decide)), j10], by rw [qc_u_ne _ _ (Or.inr (by decide)), j9], by rw [qc_u_at, hv], by rw [qc_u_ne _ _ (Or.inr (by decide)), j15]⟩
  have bad : ∀ K : qTI, frM I K → K 291 10 = nI s → frM I (qc_u (qc_u K 291 15 1) 291 16 (nI s)) ∧ (qc_u (qc_u K 291 15 1) 291 16 (nI s)) 291 10 = nI s ∧ sF (1, s) (qc_u (qc_u K 291 15 1) 291 16 (nI s)) := fun K k1 k2 =>
    ⟨frM_tr k1 (frM_tr (frM_u (by decide) _) (frM_u (by decide) _)), by rw [qc_u_ne _ _ (Or.inr (by decide)), qc_u_ne _ _ (Or.inr (by decide)), k2], by rw [qc_u_ne _ _ (Or.inr (by decide)), qc_u_at]; rfl, Nat.le_refl 1, show 1 ≤ 6 by decide, qc_u_at _ _ _ _⟩
  by_cases c1 : b s = 60
  · rw [if_pos ((e60.mpr c1))]
    unfold fX12_sign_b26 qt_sg
    simp only [if_pos c1]
    by_cases c2 : b (s + 1) = 61
    · simp only [if_pos c2]
      rw [if_pos ((f61.mpr c2)), j11]
      obtain ⟨g1, g2, g3, g4, g5⟩ := good 2 (nI (s + 1) + 1) (qi_s1 _)
      exact ⟨_, rfl, g1, g2, fun _ => ⟨g3, g4, g5⟩, fun z => by cases z⟩
    · simp only [if_neg c2]
      rw [if_neg (fun y => c2 ((f61.mp y))), (e60.mpr c1)]
      by_cases c3 : b (s + 1) = 60
      · simp only [if_pos c3]
        rw [if_pos ((f60.mpr c3)), if_neg (show ¬ (60 : Int32) = 62 by decide), qc_uu, qc_u_at, j11]
        obtain ⟨g1, g2, g3, g4, g5⟩ := good 2 (nI (s + 1) + 1 + 0) (by rw [Int32.add_zero]; exact qi_s1 _)
        exact ⟨_, rfl, g1, g2, fun _ => ⟨g3, g4, g5⟩, fun z => by cases z⟩
      · simp only [if_neg c3]
        rw [if_neg (fun y => c3 ((f60.mp y)))]
        exact ⟨J, rfl, jf, j10, fun _ => ⟨j9, j11, j15⟩, fun z => by cases z⟩
  rw [if_neg (fun y => c1 ((e60.mp y)))]
  by_cases c2 : b s = 62
  · rw [if_pos ((e62.mpr c2))]
    unfold fX12_sign_b26 qt_sg
    simp only [if_neg c1, if_pos c2]
    by_cases c3 : b (s + 1) = 61
    · simp only [if_pos c3]
      rw [if_pos ((f61.mpr c3)), j11]
      obtain ⟨g1, g2, g3, g4, g5⟩ := good 2 (nI (s + 1) + 1) (qi_s1 _)
      exact ⟨_, rfl, g1, g2, fun _ => ⟨g3, g4, g5⟩, fun z => by cases z⟩
    · simp only [if_neg c3]
      rw [if_neg (fun y => c3 ((f61.mp y))), (e62.mpr c2)]
      by_cases c4 : b (s + 1) = 62
      · simp only [if_pos c4]
        have hT2 : tpM b len (qc_u J 291 11 (nI (s + 2))) := tpM_u h5 (by decide) _
        rw [if_pos ((f62.mpr c4)), if_pos trivial, j11, qi_s1, qc_u_at, mx_at hB hT2 (by omega), qc_bds]
        by_cases c5 : b (s + 2) = 62
        · simp only [if_pos c5]
          rw [if_pos ((g62.mpr c5)), qc_uu]
          obtain ⟨g1, g2, g3, g4, g5⟩ := good 3 (nI (s + 2) + 1) (qi_s1 _)
          exact ⟨_, rfl, g1, g2, fun _ => ⟨g3, g4, g5⟩, fun z => by cases z⟩
        · simp only [if_neg c5]
          rw [if_neg (fun y => c5 ((g62.mp y))), qc_uu]
          obtain ⟨g1, g2, g3, g4, g5⟩ := good 2 (nI (s + 2) + 0) (Int32.add_zero _)
          exact ⟨_, rfl, g1, g2, fun _ => ⟨g3, g4, g5⟩, fun z => by cases z⟩
      · simp only [if_neg c4]
        rw [if_neg (fun y => c4 ((f62.mp y)))]
        exact ⟨J, rfl, jf, j10, fun _ => ⟨j9, j11, j15⟩, fun z => by cases z⟩
  rw [if_neg (fun y => c2 ((e62.mp y)))]
  by_cases c3 : b s = 33
  · rw [if_pos ((e33.mpr c3))]
    unfold fX12_sign_b106 fX12_sign_b122 qt_sg
    simp only [if_neg c1, if_neg c2, if_pos c3]
    rw [(e33.mpr c3), if_pos (show (33 : Int32) = 33 from rfl), if_pos (show (33 : Int32) = 33 from rfl)]
    by_cases c4 : b (s + 1) = 61
    · simp only [if_pos c4]
      rw [if_pos ((f61.mpr c4)), if_pos ((f61.mpr c4)), j11]
      obtain ⟨g1, g2, g3, g4, g5⟩ := good 2 (nI (s + 1) + 1) (qi_s1 _)
      exact ⟨_, rfl, g1, g2, fun _ => ⟨g3, g4, g5⟩, fun z => by cases z⟩
    · simp only [if_neg c4]
      rw [if_neg (fun y => c4 ((f61.mp y))), if_neg (fun y => c4 ((f61.mp y))), j11]
      obtain ⟨g1, g2, g3, g4, g5⟩ := good 1 (nI (s + 1) + 0) (Int32.add_zero _)
      rw [mx_fail g5, qc_bds, g2]
      obtain ⟨k1, k2, k3⟩ := bad _ g1 g2
      exact ⟨_, rfl, k1, k2, fun z => absurd rfl z, fun _ => k3⟩
  rw [if_neg (fun y => c3 ((e33.mp y)))]
  by_cases c4 : b s = 58
  · rw [if_pos ((e58.mpr c4))]
    unfold fX12_sign_b106 fX12_sign_b122 qt_sg
    simp only [if_neg c1, if_neg c2, if_neg c3, if_pos c4]
    rw [(e58.mpr c4), if_neg (show ¬ (58 : Int32) = 33 by decide), if_neg (show ¬ (58 : Int32) = 33 by decide)]
    by_cases c5 : b (s + 1) = 61
    · simp only [if_pos c5]
      rw [if_pos ((f61.mpr c5)), j11]
      obtain ⟨g1, g2, g3, g4, g5⟩ := good 2 (nI (s + 1) + 1) (qi_s1 _)
      exact ⟨_, rfl, g1, g2, fun _ => ⟨g3, g4, g5⟩, fun z => by cases z⟩
    · simp only [if_neg c5]
      rw [if_neg (fun y => c5 ((f61.mp y))), j11]
      obtain ⟨g1, g2, g3, g4, g5⟩ := good 1 (nI (s + 1) + 0) (Int32.add_zero _)
      exact ⟨_, rfl, g1, g2, fun _ => ⟨g3, g4, g5⟩, fun z => by cases z⟩
  rw [if_neg (fun y => c4 ((e58.mp y)))]
  unfold qt_sg
  simp only [if_neg c1, if_neg c2, if_neg c3, if_neg c4]
  have yes : ∀ k, k < 256 → b s = k → (qt_sL.lookup k).getD 63 ≠ 63 → ∃ I' : qTI, fX12_sign_b244 w J L D R = some ((), I', L, D, R) ∧ frM I I' ∧ I' 291 10 = nI s ∧ ((qt_sL.lookup (b s)).getD 63 ≠ 63 → I' 291 9 = 5 ∧ I' 291 11 = nI (s + 1) ∧ I' 291 15 = 0) ∧ ((qt_sL.lookup (b s)).getD 63 = 63 → sF (1, s) I') := fun k hk he hn => by
    unfold fX12_sign_b244 fX12_sign_b249
    rw [if_neg (by decide)]
    exact ⟨J, rfl, jf, j10, fun _ => ⟨j9, j11, j15⟩, fun z => absurd (by rw [← he]; exact z) hn⟩
  by_cases d43 : b s = 43
  · rw [if_pos (e43.mpr d43)]
    exact yes 43 (by decide) d43 (by decide)
  rw [if_neg (fun y => d43 (e43.mp y))]
  by_cases d45 : b s = 45
  · rw [if_pos (e45.mpr d45)]
    exact yes 45 (by decide) d45 (by decide)
  rw [if_neg (fun y => d45 (e45.mp y))]
  by_cases d42 : b s = 42
  · rw [if_pos (e42.mpr d42)]
    exact yes 42 (by decide) d42 (by decide)
  rw [if_neg (fun y => d42 (e42.mp y))]
  by_cases d47 : b s = 47
  · rw [if_pos (e47.mpr d47)]
    exact yes 47 (by decide) d47 (by decide)
  rw [if_neg (fun y => d47 (e47.mp y))]
  by_cases d37 : b s = 37
  · rw [if_pos (e37.mpr d37)]
    exact yes 37 (by decide) d37 (by decide)
  rw [if_neg (fun y => d37 (e37.mp y))]
  by_cases d38 : b s = 38
  · rw [if_pos (e38.mpr d38)]
    exact yes 38 (by decide) d38 (by decide)
  rw [if_neg (fun y => d38 (e38.mp y))]
  by_cases d124 : b s = 124
  · rw [if_pos (e124.mpr d124)]
    exact yes 124 (by decide) d124 (by decide)
  rw [if_neg (fun y => d124 (e124.mp y))]
  by_cases d94 : b s = 94
  · rw [if_pos (e94.mpr d94)]
    exact yes 94 (by decide) d94 (by decide)
  rw [if_neg (fun y => d94 (e94.mp y))]
  by_cases d126 : b s = 126
  · rw [if_pos (e126.mpr d126)]
    exact yes 126 (by decide) d126 (by decide)
  rw [if_neg (fun y => d126 (e126.mp y))]
  by_cases d40 : b s = 40
  · rw [if_pos (e40.mpr d40)]
    exact yes 40 (by decide) d40 (by decide)
  rw [if_neg (fun y => d40 (e40.mp y))]
  by_cases d41 : b s = 41
  · rw [if_pos (e41.mpr d41)]
    exact yes 41 (by decide) d41 (by decide)
  rw [if_neg (fun y => d41 (e41.mp y))]
  by_cases d91 : b s = 91
  · rw [if_pos (e91.mpr d91)]
    exact yes 91 (by decide) d91 (by decide)
  rw [if_neg (fun y => d91 (e91.mp y))]
  by_cases d93 : b s = 93
  · rw [if_pos (e93.mpr d93)]
    exact yes 93 (by decide) d93 (by decide)
  rw [if_neg (fun y => d93 (e93.mp y))]
  by_cases d44 : b s = 44
  · rw [if_pos (e44.mpr d44)]
    exact yes 44 (by decide) d44 (by decide)
  rw [if_neg (fun y => d44 (e44.mp y))]
  by_cases d61 : b s = 61
  · rw [if_pos (e61.mpr d61)]
    exact yes 61 (by decide) d61 (by decide)
  rw [if_neg (fun y => d61 (e61.mp y))]
  by_cases d63 : b s = 63
  · rw [if_pos (e63.mpr d63)]
    exact yes 63 (by decide) d63 (by decide)
  rw [if_neg (fun y => d63 (e63.mp y))]
  unfold fX12_sign_b249
  rw [if_pos rfl, mx_fail j15, qc_bds, j10]
  obtain ⟨k1, k2, k3⟩ := bad _ jf j10
  refine ⟨_, rfl, k1, k2, fun z => absurd ?_ z, fun _ => k3⟩
  have hn : ∀ l : List (Nat × Nat), (∀ q ∈ l, b s ≠ q.1) → (l.lookup (b s)).getD 63 = 63 := by
    intro l
    induction l with
    | nil => intro _; rfl
    | cons q l ih =>
      intro h
      rw [List.lookup_cons, show (b s == q.1) = false from Bool.eq_false_iff.mpr (fun z => h q (List.mem_cons_self ..) (beq_iff_eq.mp z))]
      exact ih (fun q hq => h q (List.mem_cons_of_mem _ hq))
  refine hn qt_sL (fun q hq => ?_)
  unfold qt_sL at hq
  simp only [List.mem_cons, List.not_mem_nil, or_false] at hq
  rcases hq with rfl | rfl | rfl | rfl | rfl | rfl | rfl | rfl | rfl | rfl | rfl | rfl | rfl | rfl | rfl | rfl
  all_goals assumption
theorem mx_figs (hB : qt_B b len) (hT : tpM b len I) {s : Nat} (hs : s ≤ len) (h10 : I 291 10 = nI s) (h15 : I 291 15 = 0) (hf : qt_fi (b s) = true) :
    ∃ (I' : qTI) (D' : qTD), (fX12_figures w I L D R = some ((), I', L, D', R)) ∧ frM I I' ∧ (∀ a k, ¬ (a = 291 ∧ k = 14) → D' a k = D a k) ∧ I' 291 10 = nI s ∧
      ((qt_isR b s = true ∧ (qt_f1 b s - s) + (qt_f2 b s - (qt_f1 b s + 1)) ≤ 9 ∧ I' 291 9 = 3 ∧ I' 291 11 = nI (qt_f2 b s) ∧ I' 291 15 = 0 ∧ D' 291 14 = FP.ddiv (FP.l2d (nL (qt_rv b s))) (FP.l2d (nL (10 ^ (qt_f2 b s - (qt_f1 b s + 1)))))) ∨
       (qt_isR b s = false ∧ qt_nv b s < 2147483648 ∧ I' 291 9 = 2 ∧ I' 291 11 = nI (qt_f1 b s) ∧ I' 291 15 = 0 ∧ I' 291 13 = nI (qt_nv b s)) ∨
       ((qt_isR b s = true ∧ ¬ (qt_f1 b s - s) + (qt_f2 b s - (qt_f1 b s + 1)) ≤ 9 ∨ qt_isR b s = false ∧ ¬ qt_nv b s < 2147483648) ∧ sF (1, s) I')) := by
  have hl := hB.1
  obtain ⟨a1, a2, a3, a4, a5⟩ := qt_figs hB hs
  have hT1 : tpM b len (qc_u I 291 11 (nI s)) := tpM_u hT (by decide) _
  obtain ⟨x, r1, e1⟩ := mx_fig1 (w := w) (L := L) (D := D) (R := R) hB (qt_f1 b s - s) qcF s 0 0 0 (qc_u I 291 11 (nI s)) hT1 (qc_u_at _ _ _ _) (by omega) (by unfold qcF; omega) a1 (by rw [show s + (qt_f1 b s - s) = qt_f1 b s by omega]; exact a2) ⟨by decide, Or.inl rfl⟩
  rw [show s + (qt_f1 b s - s) = qt_f1 b s by omega, Nat.zero_add, qc_uu] at e1
  have e0 : fX12_figures w I L D R = fX12_figures_l12 w qcF (qc_u I 291 11 (nI s), L, D, R, nL 0, nI 0) := by
    unfold fX12_figures
    rw [h10]
    rfl
  rw [e0, e1]
  change qt_rel x (qt_nv b s) at r1
  have hT2 : tpM b len (qc_u I 291 11 (nI (qt_f1 b s))) := tpM_u hT (by decide) _
  have tell : ∀ K : qTI, frM I K → K 291 10 = nI s → frM I (qc_u (qc_u K 291 15 1) 291 16 (nI s)) ∧ (qc_u (qc_u K 291 15 1) 291 16 (nI s)) 291 10 = nI s ∧ sF (1, s) (qc_u (qc_u K 291 15 1) 291 16 (nI s)) := fun K k1 k2 =>
    ⟨frM_tr k1 (frM_tr (frM_u (by decide) _) (frM_u (by decide) _)), by rw [qc_u_ne _ _ (Or.inr (by decide)), qc_u_ne _ _ (Or.inr (by decide)), k2], by rw [qc_u_ne _ _ (Or.inr (by decide)), qc_u_at]; rfl, Nat.le_refl 1, show 1 ≤ 6 by decide, qc_u_at _ _ _ _⟩
  have e46 : qt_i (b (qt_f1 b s)) = 46 ↔ b (qt_f1 b s) = 46 := qt_i_eq (k := 46) (qt_le256 hB _) (by decide)
  -- a number
  have num : qt_isR b s = false → ∃ (I' : qTI) (D' : qTD), (fX12_figures_b97 w (qc_u I 291 11 (nI (qt_f1 b s))) L D R (nL x) = some ((), I', L, D', R)) ∧ frM I I' ∧ (∀ a k, ¬ (a = 291 ∧ k = 14) → D' a k = D a k) ∧ I' 291 10 = nI s ∧
      ((qt_isR b s = true ∧ (qt_f1 b s - s) + (qt_f2 b s - (qt_f1 b s + 1)) ≤ 9 ∧ I' 291 9 = 3 ∧ I' 291 11 = nI (qt_f2 b s) ∧ I' 291 15 = 0 ∧ D' 291 14 = FP.ddiv (FP.l2d (nL (qt_rv b s))) (FP.l2d (nL (10 ^ (qt_f2 b s - (qt_f1 b s + 1)))))) ∨
       (qt_isR b s = false ∧ qt_nv b s < 2147483648 ∧ I' 291 9 = 2 ∧ I' 291 11 = nI (qt_f1 b s) ∧ I' 291 15 = 0 ∧ I' 291 13 = nI (qt_nv b s)) ∨
       ((qt_isR b s = true ∧ ¬ (qt_f1 b s - s) + (qt_f2 b s - (qt_f1 b s + 1)) ≤ 9 ∨ qt_isR b s = false ∧ ¬ qt_nv b s < 2147483648) ∧ sF (1, s) I')) := fun hR => by
    unfold fX12_figures_b97
    obtain ⟨J, hJ⟩ : ∃ J, J = qc_u (qc_u (qc_u I 291 11 (nI (qt_f1 b s))) 291 9 2) 291 13 (Int64.toInt32 (nL x)) := ⟨_, rfl⟩
    rw [← hJ]
    have jf : frM I J := by rw [hJ]; exact frM_tr (frM_tr (frM_u (by decide) _) (frM_u (by decide) _)) (frM_u (by decide) _)
    have j10 : J 291 10 = nI s := by rw [hJ, qc_u_ne _ _ (Or.inr (by decide)), qc_u_ne _ _ (Or.inr (by decide)), qc_u_ne _ _ (Or.inr (by decide)), h10]
    have j15 : J 291 15 = 0 := by rw [hJ, qc_u_ne _ _ (Or.inr (by decide)), qc_u_ne _ _ (Or.inr (by decide)), qc_u_ne _ _ (Or.inr (by decide)), h15]
    have hx := r1.1
    have hc : (lg_cmp (nL x) (2147483647 : Int64)) ≤ 0 ↔ x ≤ 2147483647 := by rw [lg_cmp_le, show (2147483647 : Int64) = nL 2147483647 by decide, nL_le (by omega) (by decide)]
    by_cases z : x ≤ 2147483647
    · have hv : x = qt_nv b s := by rcases r1.2 with y | y <;> omega
      rw [if_pos (hc.mpr z)]
      refine ⟨J, D, rfl, jf, fun _ _ _ => rfl, j10, Or.inr (Or.inl ⟨hR, by omega, ?_, ?_, j15, ?_⟩)⟩
      · rw [hJ, qc_u_ne _ _ (Or.inr (by decide)), qc_u_at]
      · rw [hJ, qc_u_ne _ _ (Or.inr (by decide)), qc_u_ne _ _ (Or.inr (by decide)), qc_u_at]
      · rw [hJ, qc_u_at, nL_I (by omega), hv]
    · rw [if_neg (fun y => z (hc.mp y)), mx_fail j15, qc_bds, j10]
      obtain ⟨t1, t2, t3⟩ := tell J jf j10
      exact ⟨_, D, rfl, t1, fun _ _ _ => rfl, t2, Or.inr (Or.inr ⟨Or.inr ⟨hR, by rcases r1.2 with y | y <;> omega⟩, t3⟩)⟩
  unfold zF1
  rw [qc_u_at, mx_at hB hT2 (by omega), qc_bds]
  by_cases c1 : b (qt_f1 b s) = 46
  · rw [if_pos (e46.mpr c1), qc_u_at, qi_s1, mx_fi hB hT2 (by omega), qc_bds]
    by_cases c2 : qt_fi (b (qt_f1 b s + 1)) = true
    · have hR : qt_isR b s = true := by unfold qt_isR; rw [c1, c2]; rfl
      obtain ⟨d1, d2, d3, d4⟩ := a5 hR
      rw [if_pos c2, qc_u_at, qi_s1, qc_uu]
      have hT3 : tpM b len (qc_u I 291 11 (nI (qt_f1 b s + 1))) := tpM_u hT (by decide) _
      obtain ⟨x', r2, e2⟩ := mx_fig2 (w := w) (L := L) (D := D) (R := R) hB (qt_f2 b s - (qt_f1 b s + 1)) qcF (qt_f1 b s + 1) (qt_f1 b s - s) 0 x _ (qc_u I 291 11 (nI (qt_f1 b s + 1))) hT3 (qc_u_at _ _ _ _) (by omega) (by unfold qcF; omega) d1 (by rw [show qt_f1 b s + 1 + (qt_f2 b s - (qt_f1 b s + 1)) = qt_f2 b s by omega]; exact d2) r1
      rw [show qt_f1 b s + 1 + (qt_f2 b s - (qt_f1 b s + 1)) = qt_f2 b s by omega, qc_uu, Nat.zero_add] at e2
      change qt_rel x' (qt_rv b s) at r2
      have e3 : fX12_figures_l139 w qcF (qc_u I 291 11 (nI (qt_f1 b s + 1)), L, D, R, nL x, nI (qt_f1 b s - s), nI 0) = fX12_figures_l139 w qcF (qc_u I 291 11 (nI (qt_f1 b s + 1)), L, D, R, nL x, nI (qt_f1 b s - s), (0 : Int32)) := rfl
      rw [← e3, e2]
      obtain ⟨J, hJ⟩ : ∃ J, J = qc_u (qc_u I 291 11 (nI (qt_f2 b s))) 291 9 3 := ⟨_, rfl⟩
      rw [← hJ]
      have jf : frM I J := by rw [hJ]; exact frM_tr (frM_u (by decide) _) (frM_u (by decide) _)
      have j10 : J 291 10 = nI s := by rw [hJ, qc_u_ne _ _ (Or.inr (by decide)), qc_u_ne _ _ (Or.inr (by decide)), h10]
      have j15 : J 291 15 = 0 := by rw [hJ, qc_u_ne _ _ (Or.inr (by decide)), qc_u_ne _ _ (Or.inr (by decide)), h15]
      have e4 := mx_by (w := w) (I := J) (L := L) (D := D) (R := R) (n := qt_f2 b s - (qt_f1 b s + 1)) (by omega) (nL x') (nI (qt_f1 b s - s + (qt_f2 b s - (qt_f1 b s + 1)))) (min (qt_f2 b s - (qt_f1 b s + 1)) 12) qcF 0 (Nat.zero_add _) (by unfold qcF; omega)
      rw [show FP.l2d (nL (10 ^ 0)) = (4607182418800017408 : UInt64) by decide] at e4
      have e5 : fX12_figures_l212 w qcF (J, L, D, R, nL x', nI (qt_f1 b s - s + (qt_f2 b s - (qt_f1 b s + 1))), nI (qt_f2 b s - (qt_f1 b s + 1)), (4607182418800017408 : UInt64), nI 0) = fX12_figures_l212 w qcF (J, L, D, R, nL x', nI (qt_f1 b s - s + (qt_f2 b s - (qt_f1 b s + 1))), nI (qt_f2 b s - (qt_f1 b s + 1)), (4607182418800017408 : UInt64), (0 : Int32)) := rfl
      rw [← e5, e4]
      unfold fX12_figures_b240
      have hp : (0 : Nat) < 10 ^ min (qt_f2 b s - (qt_f1 b s + 1)) 12 := Nat.pow_pos (by decide)
      have hp2 : 10 ^ min (qt_f2 b s - (qt_f1 b s + 1)) 12 ≤ 10 ^ 12 := qt_pow_le (by omega)
      have hp3 : (10 : Nat) ^ 12 < 2 ^ 63 := by decide
      rw [qf_divL_N x' _ hp (by omega), qc_gdt]
      have h9 : nI (qt_f1 b s - s + (qt_f2 b s - (qt_f1 b s + 1))) ≤ 9 ↔ (qt_f1 b s - s) + (qt_f2 b s - (qt_f1 b s + 1)) ≤ 9 := qi_le (b := 9) (by omega) (by decide)
      by_cases h : (qt_f1 b s - s) + (qt_f2 b s - (qt_f1 b s + 1)) ≤ 9
      · have hv : qt_rv b s < 2147483648 := by
          have k1 := qt_dv_lt b 0 s _ a1
          have k2 := qt_dv_lt b (qt_nv b s) (qt_f1 b s + 1) _ d1
          have k3 : qt_nv b s + 1 ≤ 10 ^ (qt_f1 b s - s) := by rw [Nat.zero_add, Nat.one_mul] at k1; exact k1
          have k4 : (qt_nv b s + 1) * 10 ^ (qt_f2 b s - (qt_f1 b s + 1)) ≤ 10 ^ (qt_f1 b s - s) * 10 ^ (qt_f2 b s - (qt_f1 b s + 1)) := Nat.mul_le_mul_right _ k3
          rw [← Nat.pow_add] at k4
          have k5 := qt_pow_le h
          have k6 : (10 : Nat) ^ 9 < 2147483648 := by decide
          have k7 : qt_rv b s = qt_dv b (qt_nv b s) (qt_f1 b s + 1) (qt_f2 b s - (qt_f1 b s + 1)) := rfl
          omega
        have hx : x' = qt_rv b s := by rcases r2.2 with y | y <;> omega
        rw [if_pos (h9.mpr h), show min (qt_f2 b s - (qt_f1 b s + 1)) 12 = qt_f2 b s - (qt_f1 b s + 1) by omega, hx]
        refine ⟨J, _, rfl, jf, fun a k z => qc_u_ne _ _ (by omega), j10, Or.inl ⟨hR, h, ?_, ?_, j15, qc_u_at _ _ _ _⟩⟩
        · rw [hJ, qc_u_at]
        · rw [hJ, qc_u_ne _ _ (Or.inr (by decide)), qc_u_at]
      · rw [if_neg (fun y => h (h9.mp y)), mx_fail j15, qc_bds, j10]
        obtain ⟨t1, t2, t3⟩ := tell J jf j10
        exact ⟨_, _, rfl, t1, fun a k z => qc_u_ne _ _ (by omega), t2, Or.inr (Or.inr ⟨Or.inl ⟨hR, h⟩, t3⟩)⟩
    · rw [if_neg c2]
      exact num (by unfold qt_isR; rw [Bool.eq_false_iff.mpr c2, Bool.and_false])
  · rw [if_neg (fun y => c1 (e46.mp y))]
    exact num (by unfold qt_isR; rw [show Nat.beq (b (qt_f1 b s)) 46 = false from Bool.eq_false_iff.mpr (fun z => c1 (qs_beq.mp z)), Bool.false_and])
/-- the next token -/
theorem mx_tk (hB : qt_B b len) (hT : tpM b len I) (h15 : I 291 15 = 0) {p : Nat} (h11 : I 291 11 = nI p) (hp : p ≤ len) :
    ∃ (I' : qTI) (L' : qTL) (D' : qTD), fX12_next w I L D R = some ((), I', L', D', R) ∧ frM I I' ∧ (∀ a k, ¬ (a = 291 ∧ k = 12) → L' a k = L a k) ∧ (∀ a k, ¬ (a = 291 ∧ k = 14) → D' a k = D a k) ∧
      (qt_m b p ≠ 63 → sM b p I' L' D') ∧ (qt_m b p = 63 → sF (1, qt_from b p) I') := by
  have hl := hB.1
  have hf1 := qt_from_le (b := b) p
  have hf2 := qt_from_max hB hp
  have hT0 : tpM b len (qc_u I 291 10 (nI p)) := tpM_u hT (by decide) _
  have e1 := mx_skip (w := w) (L := L) (D := D) (R := R) hB (qt_from b p - p) qcF p (qc_u I 291 10 (nI p)) hT0 (qc_u_at _ _ _ _) (by omega) (by unfold qcF; omega) (fun j hj => qt_run_in qt_bl b 401 p (p + j) (by omega) (by have : qt_run qt_bl b 401 p = qt_from b p := rfl; omega)) (by rw [show p + (qt_from b p - p) = qt_from b p by omega]; exact qt_run_end qt_bl hB rfl 401 p (by omega))
  rw [show p + (qt_from b p - p) = qt_from b p by omega, qc_uu] at e1
  have e0 : fX12_next w I L D R = zN w (qt_i (b (qt_from b p))) (qc_u I 291 10 (nI (qt_from b p))) L D R := by
    unfold fX12_next
    rw [h15, if_pos (by decide), h11]
    exact e1
  rw [e0]
  unfold sM qt_m qt_to qt_n qt_r
  generalize qt_from b p = s at hf1 hf2
  unfold zN
  rw [qc_u_at, qi_s1]
  obtain ⟨J, hJ⟩ : ∃ J, J = qc_u (qc_u I 291 10 (nI s)) 291 11 (nI (s + 1)) := ⟨_, rfl⟩
  rw [← hJ]
  have hT1 : tpM b len J := by rw [hJ]; exact tpM_u (tpM_u hT (by decide) _) (by decide) _
  have jf : frM I J := by rw [hJ]; exact frM_tr (frM_u (by decide) _) (frM_u (by decide) _)
  have j10 : J 291 10 = nI s := by rw [hJ, qc_u_ne _ _ (Or.inr (by decide)), qc_u_at]
  have j11 : J 291 11 = nI (s + 1) := by rw [hJ, qc_u_at]
  have j15 : J 291 15 = 0 := by rw [hJ, qc_u_ne _ _ (Or.inr (by decide)), qc_u_ne _ _ (Or.inr (by decide)), h15]
  have h0 : (0 : Int32) ≤ qt_i (b s) ↔ b s ≠ 256 := by
    have := qt_le256 hB s
    unfold qt_i
    by_cases z : b s = 256
    · rw [if_pos z]; exact ⟨fun y => absurd y (by decide), fun y => absurd z y⟩
    · rw [if_neg z]; exact ⟨fun _ => z, fun _ => (qi_le (a := 0) (by decide) (by omega)).mpr (Nat.zero_le _)⟩
  by_cases c1 : b s = 256
  · rw [if_neg (fun y => h0.mp y c1)]
    simp only [if_pos c1]
    refine ⟨_, _, _, rfl, frM_tr jf (frM_tr (frM_u (by decide) _) (frM_u (by decide) _)), fun _ _ _ => rfl, fun _ _ _ => rfl, fun _ => ⟨?_, ?_, ?_, ?_, fun z => (by rw [c1] at z; cases z), fun z => (by omega), fun z => (by omega)⟩, fun z => (by omega)⟩
    · rw [qc_u_ne _ _ (Or.inr (by decide)), qc_u_ne _ _ (Or.inr (by decide)), j10]
    · rw [qc_u_at, qc_u_ne _ _ (Or.inr (by decide)), j10]
    · rw [qc_u_ne _ _ (Or.inr (by decide)), qc_u_ne _ _ (Or.inr (by decide)), j15]
    · rw [qc_u_ne _ _ (Or.inr (by decide)), qc_u_at]; rfl
  have hs : s < len := qt_lt hB c1
  rw [if_pos (h0.mpr c1), mx_le (qt_le256 hB s), qc_bds]
  simp only [if_neg c1]
  by_cases c2 : qt_le (b s) = true
  · simp only [if_pos c2]
    obtain ⟨a1, a2, a3, a4⟩ := qt_word hB hf2 c2
    have hT2 : tpM b len (qc_u (qc_u J 291 9 1) 291 11 (nI s)) := tpM_u (tpM_u hT1 (by decide) _) (by decide) _
    have k1 := mx_let (w := w) (D := D) (R := R) hB (s := s) (qt_le_end b s - s) qcF s (qc_u (qc_u J 291 9 1) 291 11 (nI s)) (qc_u L 291 12 0) hT2 (by rw [qc_u_ne _ _ (Or.inr (by decide)), qc_u_ne _ _ (Or.inr (by decide)), j10]) ⟨Nat.le_refl _, fun j hj => absurd hj (by omega)⟩ (qc_u_at _ _ _ _) (by rw [qc_u_at, Nat.sub_self]; rfl) (by omega) (by unfold qcF; omega) a1 (by rw [show s + (qt_le_end b s - s) = qt_le_end b s by omega]; exact a2)
    rw [show s + (qt_le_end b s - s) = qt_le_end b s by omega, qc_uu, qc_uu] at k1
    have k3 : fX12_letters w J L D R = some ((), qc_u (qc_u J 291 9 1) 291 11 (nI (qt_le_end b s)), qc_u L 291 12 (qt_wo b s (qt_le_end b s - s)), D, R) := by
      unfold fX12_letters
      rw [qc_u_ne _ _ (Or.inr (by decide)), j10]
      exact k1
    rw [k3, qc_bds]
    have hw := qt_wm_0 (qt_w b s)
    refine ⟨_, _, _, rfl, frM_tr jf (frM_tr (frM_u (by decide) _) (frM_u (by decide) _)), fun a k z => qc_u_ne _ _ (by omega), fun _ _ _ => rfl, fun _ => ⟨?_, qc_u_at _ _ _ _, ?_, ?_, fun _ => qc_u_at _ _ _ _, fun z => (by omega), fun z => (by omega)⟩, fun z => (by omega)⟩
    · rw [qc_u_ne _ _ (Or.inr (by decide)), qc_u_ne _ _ (Or.inr (by decide)), j10]
    · rw [qc_u_ne _ _ (Or.inr (by decide)), qc_u_ne _ _ (Or.inr (by decide)), j15]
    · rw [qc_u_ne _ _ (Or.inr (by decide)), qc_u_at]
      unfold qt_kd
      rw [if_neg (by omega), if_neg (by omega), if_neg (by omega), if_neg (by omega), if_pos (by omega)]
      rfl
  simp only [if_neg c2]
  have c2' : ∀ {α : Prop}, qt_le (b s) = true → α := fun z => absurd z c2
  rw [mx_fi0 (qt_le256 hB s), qc_bds]
  by_cases c3 : qt_fi (b s) = true
  · simp only [if_pos c3]
    obtain ⟨I', D', k1, k2, k3, k4, k5⟩ := mx_figs (w := w) (L := L) (D := D) (R := R) hB hT1 hf2 j10 j15 c3
    rw [k1, qc_bds]
    have n36 : b s ≠ 36 := fun z => by rw [z] at c3; cases c3
    simp only [if_neg n36]
    refine ⟨_, _, _, rfl, frM_tr jf k2, fun _ _ _ => rfl, k3, ?_⟩
    rcases k5 with ⟨z1, z2, z3, z4, z5, z6⟩ | ⟨z1, z2, z3, z4, z5, z6⟩ | ⟨z1, z3⟩
    · simp only [if_pos z1, if_pos z2]
      exact ⟨fun _ => ⟨k4, z4, z5, z3, c2', fun z => (by omega), fun _ => z6⟩, fun z => (by omega)⟩
    · have z1' : ¬ qt_isR b s = true := by rw [z1]; decide
      simp only [if_neg z1', if_pos z2]
      exact ⟨fun _ => ⟨k4, z4, z5, z3, c2', fun _ => z6, fun z => (by omega)⟩, fun z => (by omega)⟩
    · have e63 : (if qt_isR b s = true then if (qt_f1 b s - s) + (qt_f2 b s - (qt_f1 b s + 1)) ≤ 9 then 2 else 63 else if qt_nv b s < 2147483648 then 1 else 63) = 63 := by
        rcases z1 with ⟨y1, y2⟩ | ⟨y1, y2⟩
        · rw [if_pos y1, if_neg y2]
        · rw [if_neg (by rw [y1]; decide), if_neg y2]
      rw [e63]
      exact ⟨fun z => absurd rfl z, fun _ => z3⟩
  simp only [if_neg c3]
  have h36 : qt_i (b s) = 36 ↔ b s = 36 := qt_i_eq (k := 36) (qt_le256 hB s) (by decide)
  by_cases c4 : b s = 36
  · simp only [if_pos c4]
    have hT2 : tpM b len (qc_u J 291 9 4) := tpM_u hT1 (by decide) _
    have hT3 : tpM b len (qc_u (qc_u J 291 9 4) 291 13 (qt_i (b (s + 1)) - 48)) := tpM_u hT2 (by decide) _
    obtain ⟨K, hK⟩ : ∃ K, K = qc_u (qc_u J 291 9 4) 291 13 (qt_i (b (s + 1)) - 48) := ⟨_, rfl⟩
    have kf : frM I K := by rw [hK]; exact frM_tr jf (frM_tr (frM_u (by decide) _) (frM_u (by decide) _))
    have k9 : K 291 9 = 4 := by rw [hK, qc_u_ne _ _ (Or.inr (by decide)), qc_u_at]
    have k10 : K 291 10 = nI s := by rw [hK, qc_u_ne _ _ (Or.inr (by decide)), qc_u_ne _ _ (Or.inr (by decide)), j10]
    have k11 : K 291 11 = nI (s + 1) := by rw [hK, qc_u_ne _ _ (Or.inr (by decide)), qc_u_ne _ _ (Or.inr (by decide)), j11]
    have k15 : K 291 15 = 0 := by rw [hK, qc_u_ne _ _ (Or.inr (by decide)), qc_u_ne _ _ (Or.inr (by decide)), j15]
    rw [if_pos (h36.mpr c4), qc_u_ne _ _ (Or.inr (by decide)), j11, mx_at hB hT2 (by omega), qc_bds, ← hK, k11]
    rw [← hK] at hT3
    rw [mx_fi hB hT3 (by omega), qc_bds]
    by_cases c5 : qt_fi (b (s + 1)) = true
    · have hd := qt_fi_iff.mp c5
      simp only [if_pos c5]
      have e48 : qt_i (b (s + 1)) - 48 = nI (b (s + 1) - 48) := by
        unfold qt_i
        rw [if_neg (by omega), show (48 : Int32) = nI 48 by decide, qi_sub (by omega)]
      unfold fX12_next_b182
      rw [k11, qi_s1]
      refine ⟨_, _, _, rfl, frM_tr kf (frM_u (by decide) _), fun _ _ _ => rfl, fun _ _ _ => rfl, fun _ => ⟨?_, qc_u_at _ _ _ _, ?_, ?_, c2', fun _ => ?_, fun z => (by omega)⟩, fun z => (by omega)⟩
      · rw [qc_u_ne _ _ (Or.inr (by decide)), k10]
      · rw [qc_u_ne _ _ (Or.inr (by decide)), k15]
      · rw [qc_u_ne _ _ (Or.inr (by decide)), k9]; rfl
      · rw [qc_u_ne _ _ (Or.inr (by decide)), hK, qc_u_at, e48]
    · simp only [if_neg c5]
      rw [k10, mx_fail k15, qc_bds]
      unfold fX12_next_b182
      refine ⟨_, _, _, rfl, frM_tr kf (frM_tr (frM_tr (frM_u (by decide) _) (frM_u (by decide) _)) (frM_u (by decide) _)), fun _ _ _ => rfl, fun _ _ _ => rfl, fun z => absurd rfl z, fun _ => ⟨?_, Nat.le_refl 1, show 1 ≤ 6 by decide, ?_⟩⟩
      · rw [qc_u_ne _ _ (Or.inr (by decide)), qc_u_ne _ _ (Or.inr (by decide)), qc_u_at]; rfl
      · rw [qc_u_ne _ _ (Or.inr (by decide)), qc_u_at]
  simp only [if_neg c4]
  rw [if_neg (fun y => c4 (h36.mp y))]
  obtain ⟨I', k1, k2, k3, k4, k5⟩ := mx_sign (w := w) (L := L) (D := D) (R := R) hB hT1 hs j10 j11 j15
  rw [k1, qc_bds]
  refine ⟨_, _, _, rfl, frM_tr jf k2, fun _ _ _ => rfl, fun _ _ _ => rfl, fun z => ?_, k5⟩
  have hk := qt_sg_k _ _ _ z
  obtain ⟨g1, g2, g3⟩ := k4 z
  refine ⟨k3, g2, g3, ?_, c2', fun z => (by omega), fun z => (by omega)⟩
  rw [g1]
  unfold qt_kd
  rw [if_neg (by omega), if_neg (by omega), if_neg (by omega), if_neg (by omega), if_neg (by omega)]
  rfl
theorem mx_tk0 {e : Nat × Nat} (h : sF e I) : fX12_next w I L D R = some ((), I, L, D, R) := by
  unfold fX12_next
  rw [h.1, if_neg (fun y => by have := (qi_le (b := 0) (by have := h.2.2.1; omega) (by decide)).mp y; have := h.2.1; omega)]
end
