/-! the reference makes a query's code -/
/-- what may change -/
def kF (q : Nat) (I0 I : qTI) : Prop := ∀ a k, ¬ (a = 291 ∧ (k = 50 ∨ k = 51 ∨ k = 52)) → ¬ ((a = 315 ∨ a = 316) ∧ 600 * q ≤ k ∧ k < 600 * q + 600) → ¬ (a = 317 ∧ 3 * q ≤ k ∧ k < 3 * q + 3) → ¬ (a = 322 ∧ k = q) → ¬ (324 ≤ a ∧ a ≤ 327) → I a k = I0 a k
/-- a part as it stands -/
def kP (q p : Nat) (l : List (Nat × Nat)) (I : qTI) : Prop := I 317 (3 * q + p) = nI l.length ∧ l.length ≤ 200 ∧ ∀ i e, l[i]? = some e → I 315 (600 * q + 200 * p + i) = nI e.1 ∧ I 316 (600 * q + 200 * p + i) = nI e.2
section
variable {w : qcW} {I I0 : qTI} {L : qTL} {D : qTD} {R : qTR} {q p : Nat} {l : List (Nat × Nat)} {A : Prop} {ds : List qDen}
theorem kF_u {a k : Nat} (h : kF q I0 I) (v : Int32) (hk : (a = 291 ∧ (k = 50 ∨ k = 51 ∨ k = 52)) ∨ ((a = 315 ∨ a = 316) ∧ 600 * q ≤ k ∧ k < 600 * q + 600) ∨ (a = 317 ∧ 3 * q ≤ k ∧ k < 3 * q + 3) ∨ (a = 322 ∧ k = q) ∨ (324 ≤ a ∧ a ≤ 327)) : kF q I0 (qc_u I a k v) := fun c j h1 h2 h3 h4 h5 => by
  rw [qc_u_ne _ _ (by
    by_cases e : c = a
    · by_cases e2 : j = k
      · subst e; subst e2
        exfalso
        rcases hk with z | z | z | z | z
        · exact h1 z
        · exact h2 z
        · exact h3 z
        · exact h4 z
        · exact h5 z
      · exact Or.inr e2
    · exact Or.inl e)]
  exact h c j h1 h2 h3 h4 h5
theorem kF_l {I1 I2 : qTI} (hp : p < 3) (h : kF q I0 I1) (g : lF q p I1 I2) : kF q I0 I2 := fun a k h1 h2 h3 h4 h5 => (g a k (by omega) (by omega) (by omega) (by omega)).trans (h a k h1 h2 h3 h4 h5)
/-- another part is left alone -/
theorem kP_l {I1 I2 : qTI} {p' : Nat} (hp : p < 3) (hp' : p' < 3) (hne : p' ≠ p) (g : lF q p I1 I2) (h : kP q p' l I1) : kP q p' l I2 := by
  obtain ⟨h1, h2, h3⟩ := h
  refine ⟨(g 317 (3 * q + p') (by omega) (by omega) (by omega) (by omega)).trans h1, h2, fun i e he => ?_⟩
  obtain ⟨h4, h5⟩ := h3 i e he
  have hi := (List.getElem?_eq_some_iff.mp he).1
  exact ⟨(g 315 _ (by omega) (by omega) (by omega) (by omega)).trans h4, (g 316 _ (by omega) (by omega) (by omega) (by omega)).trans h5⟩
/-- how a part begins, how it ends -/
theorem lT_0 {I1 : qTI} (hI : I1 317 (3 * q + p) = nI 0) (hA : (A → I1 291 51 = 0) ∧ (¬ A → I1 291 51 = 1)) : lT q p I1 A [] I1 := by
  refine ⟨fun z => ⟨fun _ _ _ _ _ _ => rfl, hA.1 z.1, hI, Nat.zero_le _, fun i e he => (by cases he)⟩, fun z => ⟨fun _ _ _ _ _ _ => rfl, hA.2 (fun u => z ⟨u, Nat.zero_le _⟩), 0, Nat.zero_le _, hI⟩⟩
theorem lT_e {I1 : qTI} (h : lT q p I1 A l I) : lF q p I1 I ∧ (A ∧ l.length ≤ 200 → I 291 51 = 0 ∧ kP q p l I) ∧ (¬ (A ∧ l.length ≤ 200) → I 291 51 = 1) := by
  by_cases z : A ∧ l.length ≤ 200
  · obtain ⟨f1, f2, f3⟩ := h.1 z
    exact ⟨f1, fun _ => ⟨f2, f3⟩, fun u => absurd z u⟩
  · obtain ⟨f1, f2, f3⟩ := h.2 z
    exact ⟨f1, fun u => absurd u z, fun _ => f2⟩
theorem nN_k {I1 : qTI} (h : kF q I0 I1) (hW : ∀ x d, ds[x]? = some d → nN I0 ds x d) : ∀ x d, ds[x]? = some d → nN I1 ds x d := fun x d hx => nN_co (fun a h1 h2 => h a x (by omega) (by omega) (by omega) (by omega) (by omega)) (hW x d hx)
end
