/-! the beginning of a run, with the reference -/
section
variable {w : qcW} {I : qTI} {L : qTL} {D : qTD} {R : qTR} {q n2 : Nat}
theorem mx_begin {s : Nat} (hq : q < 12) (hQ : fX12_isQuery w I L D R (nI q) = some (true, I, L, D, R)) (hn2 : n2 ≤ 200) (h317 : I 317 (3 * q + 2) = nI n2) (hs : s = 1 ∧ I 318 q = 1 ∨ s = 0 ∧ (I 318 q = 0 ∨ I 318 q = 2)) :
    ∃ S' : qcM, fX12_run w I L D R (nI q) = fX12_run_l139 w qcF (S'.1, S'.2.1, S'.2.2.1, S'.2.2.2, nI q, I 318 q) ∧ (S'.1 291 72 = nI q ∧ S'.1 291 77 = nI q ∧ S'.1 291 79 = -1 ∧ S'.1 291 80 = -1 ∧ S'.1 291 69 = 0 ∧ S'.1 291 73 = 0 ∧ S'.1 291 81 = nI (qx_g0 s n2) ∧ S'.1 291 82 = nI s ∧ S'.1 291 88 = I 322 q ∧ S'.1 291 71 = 0) ∧
      (∀ a k, ¬ (a = 291 ∧ (k = 69 ∨ k = 71 ∨ k = 72 ∨ k = 73 ∨ k = 77 ∨ k = 79 ∨ k = 80 ∨ k = 81 ∨ k = 82 ∨ k = 88)) → a ≠ 333 → S'.1 a k = I a k) ∧ S'.2.1 291 70 = 0 ∧ (∀ a k, ¬ (a = 291 ∧ k = 70) → a ≠ 335 → a ≠ 336 → S'.2.1 a k = L a k) ∧ (∀ a, a ≠ 337 → S'.2.2.1 a = D a) ∧ S'.2.2.2 = R ∧ (qx_g0 s n2 = 1 → S'.1 333 0 = 0 ∧ S'.2.1 335 0 = 0 ∧ S'.2.1 336 0 = 0 ∧ S'.2.2.1 337 0 = 0) := by
  have e3 : (3 : Int32) * nI q + 2 = nI (3 * q + 2) := by rw [show (3 : Int32) = nI 3 by decide, show (2 : Int32) = nI 2 by decide, qi_mul, nI_add]
  have i36 : qc_inb (nI (3 * q + 2)) 36 = true := qi_inbN (by omega) (by decide)
  have c36 : (nI (3 * q + 2)).toNatClampNeg = 3 * q + 2 := nI_clamp (by omega)
  have i12 : qc_inb (nI q) 12 = true := qi_inbN hq (by decide)
  have c12 : (nI q).toNatClampNeg = q := nI_clamp (by omega)
  unfold fX12_run
  rw [hQ, qc_bds, if_pos rfl, i12, qc_gdt, c12]
  generalize hJ : qc_u (qc_u (qc_u (qc_u (qc_u (qc_u (qc_u I 291 72 (nI q)) 291 77 (nI q)) 291 79 (-1)) 291 80 (-1)) 291 69 0) 291 73 0) 291 81 0 = J
  have ja : ∀ a, a ≠ 291 → J a = I a := fun a h => by rw [← hJ]; simp only [qc_u_off _ _ h]
  have jk : ∀ k, ¬ (k = 69 ∨ k = 72 ∨ k = 73 ∨ k = 77 ∨ k = 79 ∨ k = 80 ∨ k = 81) → J 291 k = I 291 k := fun k h => by
    rw [← hJ, qc_u_ne _ _ (by omega), qc_u_ne _ _ (by omega), qc_u_ne _ _ (by omega), qc_u_ne _ _ (by omega), qc_u_ne _ _ (by omega), qc_u_ne _ _ (by omega), qc_u_ne _ _ (by omega)]
  have j1 : J 291 72 = nI q ∧ J 291 77 = nI q ∧ J 291 79 = -1 ∧ J 291 80 = -1 ∧ J 291 69 = 0 ∧ J 291 73 = 0 ∧ J 291 81 = 0 := by
    rw [← hJ]
    refine ⟨?_, ?_, ?_, ?_, ?_, ?_, ?_⟩
    all_goals simp only [qc_u, if_true, if_false, Nat.reduceEqDiff]
  obtain ⟨j72, j77, j79, j80, j69, j73, j81⟩ := j1
  rw [ja 318 (by decide)]
  have main : ∀ s0 : Int32, s0 = nI s → s ≤ 1 → fX12_run_b68 w J (qc_u L 291 70 0) D R (nI q) (I 318 q) s0 = if s = 1 ∧ n2 = 0 then fX12_run_l139 w qcF (qc_u (qc_u (qc_u (qc_u (qc_u J 291 82 (nI s)) 291 88 (I 322 q)) 333 0 0) 291 81 1) 291 71 0, qc_u (qc_u (qc_u L 291 70 0) 335 0 0) 336 0 0, qc_u D 337 0 0, R, nI q, I 318 q) else fX12_run_l139 w qcF (qc_u (qc_u (qc_u J 291 82 (nI s)) 291 88 (I 322 q)) 291 71 0, qc_u L 291 70 0, D, R, nI q, I 318 q) := by
    intro s0 hs0 hs1
    unfold fX12_run_b68 fX12_run_b134
    have h01 : qc_01 s0 = true := by
      rw [hs0]
      rcases (show s = 0 ∨ s = 1 by omega) with rfl | rfl <;> rfl
    rw [h01, qc_gdt, i12, qc_gdt, c12, qc_u_off _ _ (show 322 ≠ 291 by decide), ja 322 (by decide), qc_u_ne _ _ (Or.inr (show 82 ≠ 88 by decide)), qc_u_at, e3, i36, qc_gdt, c36, qc_u_off _ _ (show 317 ≠ 291 by decide), qc_u_off _ _ (show 317 ≠ 291 by decide), ja 317 (by decide), h317, hs0, show Int32.toNatClampNeg (0 : Int32) = 0 from rfl]
    rcases (show s = 0 ∨ s = 1 by omega) with rfl | rfl
    · rw [if_pos (show nI 0 = 0 by decide), if_neg (fun z => by cases z.1)]
    · rw [if_neg (show ¬ nI 1 = 0 by decide)]
      by_cases hz : n2 = 0
      · rw [if_pos (by rw [hz]; rfl), if_pos ⟨rfl, hz⟩]
      · rw [if_neg (fun z => by have := qi_nI_inj (j := 0) (by omega) (by decide) z; omega), if_neg (fun z => hz z.2)]
  have main2 : (if I 318 q = 1 then fX12_run_b68 w J (qc_u L 291 70 0) D R (nI q) (I 318 q) 1 else fX12_run_b68 w J (qc_u L 291 70 0) D R (nI q) (I 318 q) 0) = if s = 1 ∧ n2 = 0 then fX12_run_l139 w qcF (qc_u (qc_u (qc_u (qc_u (qc_u J 291 82 (nI s)) 291 88 (I 322 q)) 333 0 0) 291 81 1) 291 71 0, qc_u (qc_u (qc_u L 291 70 0) 335 0 0) 336 0 0, qc_u D 337 0 0, R, nI q, I 318 q) else fX12_run_l139 w qcF (qc_u (qc_u (qc_u J 291 82 (nI s)) 291 88 (I 322 q)) 291 71 0, qc_u L 291 70 0, D, R, nI q, I 318 q) := by
    rcases hs with ⟨rfl, z⟩ | ⟨rfl, z⟩
    · rw [if_pos z]
      exact main 1 rfl (by decide)
    · rw [if_neg (by rcases z with z | z <;> (rw [z]; decide))]
      exact main 0 rfl (by decide)
  rw [main2]
  unfold qx_g0
  by_cases hz : s = 1 ∧ n2 = 0
  · rw [if_pos hz, if_pos hz]
    have ka : ∀ a k, ¬ (a = 291 ∧ (k = 71 ∨ k = 81 ∨ k = 82 ∨ k = 88)) → a ≠ 333 → qc_u (qc_u (qc_u (qc_u (qc_u J 291 82 (nI s)) 291 88 (I 322 q)) 333 0 0) 291 81 1) 291 71 0 a k = J a k := fun a k h h2 => by rw [qc_u_ne _ _ (by omega), qc_u_ne _ _ (by omega), qc_u_ne _ _ (Or.inl h2), qc_u_ne _ _ (by omega), qc_u_ne _ _ (by omega)]
    refine ⟨(qc_u (qc_u (qc_u (qc_u (qc_u J 291 82 (nI s)) 291 88 (I 322 q)) 333 0 0) 291 81 1) 291 71 0, qc_u (qc_u (qc_u L 291 70 0) 335 0 0) 336 0 0, qc_u D 337 0 0, R), rfl, ⟨(ka 291 72 (by omega) (by decide)).trans j72, (ka 291 77 (by omega) (by decide)).trans j77, (ka 291 79 (by omega) (by decide)).trans j79, (ka 291 80 (by omega) (by decide)).trans j80, (ka 291 69 (by omega) (by decide)).trans j69, (ka 291 73 (by omega) (by decide)).trans j73, ?_, ?_, ?_, ?_⟩, fun a k h1 h2 => (ka a k (by omega) h2).trans ?_, ?_, fun a k h1 h2 h3 => ?_, fun a h => ?_, rfl, fun _ => ⟨?_, ?_, ?_, ?_⟩⟩
    · dsimp only
      rw [qc_u_ne _ _ (Or.inr (by decide)), qc_u_at]
      rfl
    · dsimp only
      rw [qc_u_ne _ _ (Or.inr (by decide)), qc_u_ne _ _ (Or.inr (by decide)), qc_u_ne _ _ (Or.inl (by decide)), qc_u_ne _ _ (Or.inr (by decide)), qc_u_at]
    · dsimp only
      rw [qc_u_ne _ _ (Or.inr (by decide)), qc_u_ne _ _ (Or.inr (by decide)), qc_u_ne _ _ (Or.inl (by decide)), qc_u_at]
    · dsimp only
      rw [qc_u_at]
    · by_cases ha : a = 291
      · subst ha
        exact jk k (by omega)
      · rw [ja a ha]
    · dsimp only
      rw [qc_u_ne _ _ (Or.inl (by decide)), qc_u_ne _ _ (Or.inl (by decide)), qc_u_at]
    · dsimp only
      rw [qc_u_ne _ _ (Or.inl h3), qc_u_ne _ _ (Or.inl h2), qc_u_ne _ _ (by omega)]
    · dsimp only
      rw [qc_u_off _ _ h]
    · dsimp only
      rw [qc_u_ne _ _ (Or.inl (by decide)), qc_u_ne _ _ (Or.inl (by decide)), qc_u_at]
    · dsimp only
      rw [qc_u_ne _ _ (Or.inl (by decide)), qc_u_at]
    · dsimp only
      rw [qc_u_at]
    · dsimp only
      rw [qc_u_at]
  · rw [if_neg hz, if_neg hz]
    have ka : ∀ a k, ¬ (a = 291 ∧ (k = 71 ∨ k = 82 ∨ k = 88)) → qc_u (qc_u (qc_u J 291 82 (nI s)) 291 88 (I 322 q)) 291 71 0 a k = J a k := fun a k h => by rw [qc_u_ne _ _ (by omega), qc_u_ne _ _ (by omega), qc_u_ne _ _ (by omega)]
    refine ⟨(qc_u (qc_u (qc_u J 291 82 (nI s)) 291 88 (I 322 q)) 291 71 0, qc_u L 291 70 0, D, R), rfl, ⟨(ka 291 72 (by omega)).trans j72, (ka 291 77 (by omega)).trans j77, (ka 291 79 (by omega)).trans j79, (ka 291 80 (by omega)).trans j80, (ka 291 69 (by omega)).trans j69, (ka 291 73 (by omega)).trans j73, (ka 291 81 (by omega)).trans j81, ?_, ?_, ?_⟩, fun a k h1 h2 => (ka a k (by omega)).trans ?_, ?_, fun a k h1 h2 h3 => ?_, fun a h => rfl, rfl, fun z => by cases z⟩
    · dsimp only
      rw [qc_u_ne _ _ (Or.inr (by decide)), qc_u_ne _ _ (Or.inr (by decide)), qc_u_at]
    · dsimp only
      rw [qc_u_ne _ _ (Or.inr (by decide)), qc_u_at]
    · dsimp only
      rw [qc_u_at]
    · by_cases ha : a = 291
      · subst ha
        exact jk k (by omega)
      · rw [ja a ha]
    · dsimp only
      rw [qc_u_at]
    · dsimp only
      rw [qc_u_ne _ _ (by omega)]
end
