/-! the beginning of a run -/
section
variable {w : qcW} {I : qTI} {L : qTL} {D : qTD} {R : qTR} {X q n2 b2 : Nat}
/-- whether one group is opened ahead -/
def qx_g0 (s n2 : Nat) : Nat := if s = 1 ∧ n2 = 0 then 1 else 0
theorem cx_begin {s : Nat} (hX : 338 ≤ X) (h0 : qc_io w X 6 = true) (h2 : qc_ia w (R X 2) 100 = true) (h3 : w.2.2 (R X 2) = 4) (h4 : 338 ≤ R X 2) (hb : I (R X 2) 2 = nI b2) (hn : I (R X 2) 3 = nI (b2 + n2)) (hn2 : n2 ≤ 200) (hl5 : qc_l62 (R X 5) = true) (hs : s = 1 ∧ R X 4 = 9 ∨ s = 0 ∧ (R X 4 = 5 ∨ R X 4 = 15)) :
    ∃ C' : qcM, fX3_begin w I L D R (nI q) X = some ((), C') ∧ (C'.1 280 0 = nI q ∧ C'.1 280 1 = 0 ∧ C'.1 280 2 = -1 ∧ C'.1 280 3 = -1 ∧ C'.1 280 4 = 0 ∧ C'.1 280 5 = nI (qx_g0 s n2) ∧ C'.1 280 6 = nI s ∧ C'.1 280 13 = I X 6) ∧ (∀ a, a ≠ 280 → a ≠ 281 → C'.1 a = I a) ∧ (∀ a, a ≠ 283 → a ≠ 284 → C'.2.1 a = L a) ∧ (∀ a, a ≠ 285 → C'.2.2.1 a = D a) ∧ C'.2.2.2 = qc_u R 280 12 (R X 5) ∧ (qx_g0 s n2 = 1 → C'.1 281 0 = 0 ∧ C'.2.1 283 0 = 0 ∧ C'.2.1 284 0 = 0 ∧ C'.2.2.1 285 0 = 0) := by
  have r1 : ∀ k, qc_u R 280 12 (R X 5) X k = R X k := fun k => qc_u_ne _ _ (Or.inl (by omega))
  have hl4 : qc_l62 (R X 4) = true := by rcases hs with ⟨_, z⟩ | ⟨_, z | z⟩ <;> (rw [z]; rfl)
  unfold fX3_begin fX3_forget
  rw [h0, qc_gdt, qc_bds, hl5, qc_gdt, r1 4, hl4, qc_gdt]
  have u0 : ∀ (J : qTI) k v, k ≠ 0 → qc_u J 280 0 v 280 k = J 280 k := fun J k v h => qc_u_ne _ _ (Or.inr h)
  unfold fX3_begin_b41
  rw [h0]
  simp only [qc_gdt]
  rcases hs with ⟨rfl, hR⟩ | ⟨rfl, hR⟩
  · rw [if_pos hR, show qc_01 (1 : Int32) = true from rfl, qc_gdt, qc_u_at, if_neg (show ¬ (1 : Int32) = 0 by decide)]
    generalize hJ : qc_u (qc_u (qc_u (qc_u (qc_u (qc_u (qc_u (qc_u (qc_u (qc_u I 280 0 (-1)) 280 1 0) 280 2 (-1)) 280 3 (-1)) 280 4 0) 280 5 0) 280 6 0) 280 0 (nI q)) 280 13 (qc_u (qc_u (qc_u (qc_u (qc_u (qc_u (qc_u (qc_u I 280 0 (-1)) 280 1 0) 280 2 (-1)) 280 3 (-1)) 280 4 0) 280 5 0) 280 6 0) 280 0 (nI q) X 6)) 280 6 1 = J
    have ja : ∀ a, a ≠ 280 → J a = I a := fun a h => by rw [← hJ]; simp only [qc_u_off _ _ h]
    have j1 : J 280 0 = nI q ∧ J 280 1 = 0 ∧ J 280 2 = -1 ∧ J 280 3 = -1 ∧ J 280 4 = 0 ∧ J 280 5 = 0 ∧ J 280 6 = 1 ∧ J 280 13 = I X 6 := by
      rw [← hJ]
      refine ⟨?_, ?_, ?_, ?_, ?_, ?_, ?_, ?_⟩
      all_goals simp only [qc_u, if_true, if_false, Nat.reduceEqDiff, show ¬ X = 280 by omega]
    have hsz : fX7_size w J L D (qc_u R 280 12 (R X 5)) X 2 = some (nI n2, J, L, D, qc_u R 280 12 (R X 5)) := by
      have z := fx_size (w := w) (I := J) (L := L) (D := D) (R := qc_u R 280 12 (R X 5)) (x := X) (p := 2) (b := b2) (n := n2) h0 (by rw [r1]; exact h2) (by rw [r1]; exact h3) (by decide) (by rw [r1, ja _ (by omega)]; exact hb) (by rw [r1, ja _ (by omega)]; exact hn)
      exact z
    rw [hsz, qc_bds]
    obtain ⟨j0, j1, j2, j3, j4, j5, j6, j7⟩ := j1
    by_cases hz : n2 = 0
    · subst hz
      have hg : qx_g0 1 0 = 1 := rfl
      have oX : fX3_openGroup w J L D (qc_u R 280 12 (R X 5)) 0 = some ((), qc_u (qc_u J 281 0 0) 280 5 1, qc_u (qc_u L 283 0 0) 284 0 0, qc_u D 285 0 0, qc_u R 280 12 (R X 5)) := by
        unfold fX3_openGroup
        rw [qc_u_ne _ _ (Or.inl (show 280 ≠ 281 by decide)), j5]
        rfl
      rw [if_pos (show nI 0 = 0 by decide), oX, qc_bds, hg]
      have v1 : ∀ k, k ≠ 5 → qc_u (qc_u J 281 0 0) 280 5 1 280 k = J 280 k := fun k h => by rw [qc_u_ne _ _ (Or.inr h), qc_u_ne _ _ (Or.inl (by decide))]
      refine ⟨(_, _, _, _), rfl, ⟨(v1 0 (by decide)).trans j0, (v1 1 (by decide)).trans j1, (v1 2 (by decide)).trans j2, (v1 3 (by decide)).trans j3, (v1 4 (by decide)).trans j4, ?_, (v1 6 (by decide)).trans j6, (v1 13 (by decide)).trans j7⟩, fun a y z => ?_, fun a y z => ?_, fun a y => ?_, rfl, fun _ => ⟨?_, ?_, ?_, ?_⟩⟩
      · dsimp only
        rw [qc_u_at]
        rfl
      · dsimp only
        rw [qc_u_off _ _ y, qc_u_off _ _ z, ja a y]
      · dsimp only
        rw [qc_u_off _ _ z, qc_u_off _ _ y]
      · dsimp only
        rw [qc_u_off _ _ y]
      · dsimp only
        rw [qc_u_ne _ _ (Or.inl (by decide)), qc_u_at]
      · dsimp only
        rw [qc_u_ne _ _ (Or.inl (by decide)), qc_u_at]
      · dsimp only
        rw [qc_u_at]
      · dsimp only
        rw [qc_u_at]
    · have hg : qx_g0 1 n2 = 0 := if_neg (fun z => hz z.2)
      rw [if_neg (fun z => by have := qi_nI_inj (j := 0) (by omega) (by decide) z; omega), hg]
      exact ⟨(J, L, D, qc_u R 280 12 (R X 5)), rfl, ⟨j0, j1, j2, j3, j4, j5, j6, j7⟩, fun a y z => ja a y, fun a y z => rfl, fun a y => rfl, rfl, fun z => by cases z⟩
  · have hR9 : ¬ R X 4 = 9 := by rcases hR with z | z <;> (rw [z]; decide)
    have hg : qx_g0 0 n2 = 0 := if_neg (fun z => by cases z.1)
    rw [if_neg hR9, show qc_01 (0 : Int32) = true from rfl, qc_gdt, qc_u_at, if_pos rfl, hg]
    generalize hJ : qc_u (qc_u (qc_u (qc_u (qc_u (qc_u (qc_u (qc_u (qc_u (qc_u I 280 0 (-1)) 280 1 0) 280 2 (-1)) 280 3 (-1)) 280 4 0) 280 5 0) 280 6 0) 280 0 (nI q)) 280 13 (qc_u (qc_u (qc_u (qc_u (qc_u (qc_u (qc_u (qc_u I 280 0 (-1)) 280 1 0) 280 2 (-1)) 280 3 (-1)) 280 4 0) 280 5 0) 280 6 0) 280 0 (nI q) X 6)) 280 6 0 = J
    have ja : ∀ a, a ≠ 280 → J a = I a := fun a h => by rw [← hJ]; simp only [qc_u_off _ _ h]
    have j1 : J 280 0 = nI q ∧ J 280 1 = 0 ∧ J 280 2 = -1 ∧ J 280 3 = -1 ∧ J 280 4 = 0 ∧ J 280 5 = 0 ∧ J 280 6 = 0 ∧ J 280 13 = I X 6 := by
      rw [← hJ]
      refine ⟨?_, ?_, ?_, ?_, ?_, ?_, ?_, ?_⟩
      all_goals simp only [qc_u, if_true, if_false, Nat.reduceEqDiff, show ¬ X = 280 by omega]
    exact ⟨(J, L, D, qc_u R 280 12 (R X 5)), rfl, j1, fun a y z => ja a y, fun a y z => rfl, fun a y => rfl, rfl, fun z => by cases z⟩
end
