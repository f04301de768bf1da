/-! the reference lays code: small steps -/
abbrev qTs : Type := List (Nat × Int32 × Int32)
def tK (f g h : Nat → Int32) : qTs → Prop
  | [] => True
  | t :: T => (f T.length = nI t.1 ∧ g T.length = t.2.1 ∧ h T.length = t.2.2 ∧ t.1 ≤ 5) ∧ tK f g h T
theorem tK_co {f g h f' g' h' : Nat → Int32} : ∀ {T : qTs}, (∀ i, i < T.length → f' i = f i ∧ g' i = g i ∧ h' i = h i) → tK f g h T → tK f' g' h' T
  | [], _, _ => trivial
  | t :: T, e, ⟨⟨h1, h2, h3, h4⟩, h5⟩ => by
    obtain ⟨e1, e2, e3⟩ := e T.length (by rw [List.length_cons]; omega)
    exact ⟨⟨e1.trans h1, e2.trans h2, e3.trans h3, h4⟩, tK_co (fun i hi => e i (by rw [List.length_cons]; omega)) h5⟩
def lF (q p : Nat) (I0 I : qTI) : Prop := ∀ a k, ¬ (a = 291 ∧ (k = 51 ∨ k = 52)) → ¬ ((a = 315 ∨ a = 316) ∧ 600 * q + 200 * p ≤ k ∧ k < 600 * q + 200 * p + 200) → ¬ (a = 317 ∧ k = 3 * q + p) → ¬ (324 ≤ a ∧ a ≤ 327) → I a k = I0 a k
def lR (q p : Nat) (I0 : qTI) (T : qTs) (l : List (Nat × Nat)) (I : qTI) : Prop :=
  lF q p I0 I ∧ I 291 51 = 0 ∧ (I 291 52 = nI T.length ∧ tK (I 324) (I 325) (I 326) T) ∧ (I 317 (3 * q + p) = nI l.length ∧ l.length ≤ 200 ∧ ∀ i e, l[i]? = some e → I 315 (600 * q + 200 * p + i) = nI e.1 ∧ I 316 (600 * q + 200 * p + i) = nI e.2)
/-- what stands -/
def lS (q p : Nat) (I0 : qTI) : Prop := I0 291 40 = nI q ∧ q < 12 ∧ I0 291 50 = nI p ∧ p < 3
section
variable {w : qcW} {I I0 : qTI} {L : qTL} {D : qTD} {R : qTR} {q p : Nat} {T : qTs} {l : List (Nat × Nat)}
theorem lF_u {a k : Nat} (h : lF q p I0 I) (v : Int32) (hk : (a = 291 ∧ (k = 51 ∨ k = 52)) ∨ ((a = 315 ∨ a = 316) ∧ 600 * q + 200 * p ≤ k ∧ k < 600 * q + 200 * p + 200) ∨ (a = 317 ∧ k = 3 * q + p) ∨ (324 ≤ a ∧ a ≤ 327)) : lF q p I0 (qc_u I a k v) := fun c j h1 h2 h3 h4 => by
  rw [qc_u_ne _ _ (by
    by_cases e : c = a
    · by_cases e2 : j = k
      · subst e; subst e2
        exfalso
        rcases hk with z | z | z | z
        · exact h1 z
        · exact h2 z
        · exact h3 z
        · exact h4 z
      · exact Or.inr e2
    · exact Or.inl e)]
  exact h c j h1 h2 h3 h4
theorem lS_i (hS : lS q p I0) (h : lF q p I0 I) : I 291 40 = nI q ∧ I 291 50 = nI p := ⟨(h 291 40 (by omega) (by omega) (by omega) (by omega)).trans hS.1, (h 291 50 (by omega) (by omega) (by omega) (by omega)).trans hS.2.2.1⟩
theorem l_ix (n : Nat) : (((600 : Int32) * nI q) + ((200 : Int32) * nI p)) + nI n = nI (600 * q + 200 * p + n) := by
  rw [show (600 : Int32) = nI 600 from rfl, show (200 : Int32) = nI 200 from rfl, qi_mul, qi_mul, nI_add, nI_add]
theorem l_i3 : ((3 : Int32) * nI q) + nI p = nI (3 * q + p) := by rw [show (3 : Int32) = nI 3 from rfl, qi_mul, nI_add]
theorem l_here (hS : lS q p I0) (h : lR q p I0 T l I) : fX12_here w I L D R = some (nI l.length, I, L, D, R) := by
  obtain ⟨a1, a2⟩ := lS_i hS h.1
  obtain ⟨-, s2, -, s4⟩ := hS
  unfold fX12_here
  rw [a1, a2, l_i3, qi_inbN (by omega) (by decide), qc_gdt, nI_clamp (by omega), h.2.2.2.1]
theorem l_emit (hS : lS q p I0) (h : lR q p I0 T l I) (hl : l.length < 200) (o a : Nat) : ∃ I' : qTI, fX12_emit w I L D R (nI o) (nI a) = some ((), I', L, D, R) ∧ lR q p I0 T (l ++ [(o, a)]) I' ∧ I' 327 = I 327 := by
  have hh := l_here (w := w) (L := L) (D := D) (R := R) hS h
  obtain ⟨a1, a2⟩ := lS_i hS h.1
  obtain ⟨-, s2, -, s4⟩ := hS
  obtain ⟨f1, f2, ⟨f3, f4⟩, f5, f6, f7⟩ := h
  refine ⟨qc_u (qc_u (qc_u I 315 (600 * q + 200 * p + l.length) (nI o)) 316 (600 * q + 200 * p + l.length) (nI a)) 317 (3 * q + p) (nI (l.length + 1)), ?_, ⟨lF_u (lF_u (lF_u f1 _ (by omega)) _ (by omega)) _ (by omega), ?_, ⟨?_, ?_⟩, ?_, by rw [List.length_append, List.length_singleton]; omega, fun i e he => ?_⟩, ?_⟩
  · unfold fX12_emit
    rw [hh, qc_bds, if_neg (fun u => by have := qi_nI_inj (j := 200) (by omega) (by decide) u; omega)]
    simp only [qc_u_off _ _ (show (291 : Nat) ≠ 315 by decide), qc_u_off _ _ (show (291 : Nat) ≠ 316 by decide), a1, a2, l_ix, l_i3, qi_inbN (show 600 * q + 200 * p + l.length < 7200 by omega) (by decide : 7200 < 2 ^ 31), qi_inbN (show 3 * q + p < 36 by omega) (by decide : 36 < 2 ^ 31), qc_gdt, nI_clamp (show 600 * q + 200 * p + l.length < 2 ^ 31 by omega), nI_clamp (show 3 * q + p < 2 ^ 31 by omega), qc_u_off _ _ (show (317 : Nat) ≠ 315 by decide), qc_u_off _ _ (show (317 : Nat) ≠ 316 by decide), f5, qi_s1]
  · rw [qc_u_ne _ _ (Or.inl (by decide)), qc_u_ne _ _ (Or.inl (by decide)), qc_u_ne _ _ (Or.inl (by decide)), f2]
  · rw [qc_u_ne _ _ (Or.inl (by decide)), qc_u_ne _ _ (Or.inl (by decide)), qc_u_ne _ _ (Or.inl (by decide)), f3]
  · simp only [qc_u_off _ _ (show (324 : Nat) ≠ 315 by decide), qc_u_off _ _ (show (324 : Nat) ≠ 316 by decide), qc_u_off _ _ (show (324 : Nat) ≠ 317 by decide), qc_u_off _ _ (show (325 : Nat) ≠ 315 by decide), qc_u_off _ _ (show (325 : Nat) ≠ 316 by decide), qc_u_off _ _ (show (325 : Nat) ≠ 317 by decide), qc_u_off _ _ (show (326 : Nat) ≠ 315 by decide), qc_u_off _ _ (show (326 : Nat) ≠ 316 by decide), qc_u_off _ _ (show (326 : Nat) ≠ 317 by decide)]
    exact f4
  · rw [qc_u_at, List.length_append, List.length_singleton]
  · simp only [qc_u_off _ _ (show (315 : Nat) ≠ 316 by decide), qc_u_off _ _ (show (315 : Nat) ≠ 317 by decide), qc_u_off _ _ (show (316 : Nat) ≠ 317 by decide)]
    by_cases z : i < l.length
    · rw [List.getElem?_append_left z] at he
      rw [qc_u_ne _ _ (Or.inr (by omega)), qc_u_ne _ _ (Or.inr (by omega)), qc_u_off _ _ (show (316 : Nat) ≠ 315 by decide)]
      exact f7 i e he
    · have hi : i = l.length := by
        have := (List.getElem?_eq_some_iff.mp he).1
        rw [List.length_append, List.length_singleton] at this
        omega
      subst hi
      rw [List.getElem?_append_right (Nat.le_refl _), Nat.sub_self] at he
      cases he
      rw [qc_u_at, qc_u_at]
      exact ⟨rfl, rfl⟩
  · rw [qc_u_off _ _ (by decide), qc_u_off _ _ (by decide), qc_u_off _ _ (by decide)]
theorem l_full (hS : lS q p I0) (h : lR q p I0 T l I) (hl : l.length = 200) (x y : Int32) : fX12_emit w I L D R x y = some ((), qc_u I 291 51 1, L, D, R) := by
  unfold fX12_emit
  rw [l_here (w := w) (L := L) (D := D) (R := R) hS h, qc_bds, hl, if_pos (show nI 200 = 200 from rfl)]
theorem l_patch (hS : lS q p I0) (h : lR q p I0 T l I) {j o a : Nat} (hj : l[j]? = some (o, a)) : ∃ I' : qTI, fX12_patch w I L D R (nI j) = some ((), I', L, D, R) ∧ lR q p I0 T (l.set j (o, l.length)) I' ∧ I' 327 = I 327 := by
  have hh := l_here (w := w) (L := L) (D := D) (R := R) hS h
  obtain ⟨a1, a2⟩ := lS_i hS h.1
  obtain ⟨-, s2, -, s4⟩ := hS
  obtain ⟨f1, f2, ⟨f3, f4⟩, f5, f6, f7⟩ := h
  have hjl := (List.getElem?_eq_some_iff.mp hj).1
  have off : ∀ c, c ≠ 316 → qc_u I 316 (600 * q + 200 * p + j) (nI l.length) c = I c := fun c hc => qc_u_off _ _ hc
  refine ⟨qc_u I 316 (600 * q + 200 * p + j) (nI l.length), ?_, ⟨lF_u f1 _ (by omega), ?_, ⟨?_, ?_⟩, ?_, by rw [List.length_set]; exact f6, fun i e he => ?_⟩, off 327 (by decide)⟩
  · unfold fX12_patch
    rw [if_neg (fun u => by have := (qi_le (a := 200) (by decide) (by omega)).mp u; omega), hh, qc_bds, a1, a2, l_ix, qi_inbN (by omega) (by decide), qc_gdt, nI_clamp (by omega)]
  · rw [off 291 (by decide)]; exact f2
  · rw [off 291 (by decide)]; exact f3
  · rw [off 324 (by decide), off 325 (by decide), off 326 (by decide)]; exact f4
  · rw [off 317 (by decide), List.length_set]; exact f5
  · rw [off 315 (by decide)]
    by_cases z : i = j
    · subst z
      rw [List.getElem?_set_self hjl] at he
      cases he
      exact ⟨(f7 i _ hj).1, qc_u_at _ _ _ _⟩
    · rw [List.getElem?_set_ne (fun u => z u.symm)] at he
      rw [qc_u_ne _ _ (Or.inr (by omega))]
      exact f7 i e he
theorem l_task (h : lR q p I0 T l I) {s : Nat} (hs : s ≤ 5) (hT : T.length < 2000) (x y : Int32) : ∃ I' : qTI, fX12_task w I L D R (nI s) x y = some ((), I', L, D, R) ∧ lR q p I0 ((s, x, y) :: T) l I' ∧ I' 327 = I 327 := by
  obtain ⟨f1, f2, ⟨f3, f4⟩, f5, f6, f7⟩ := h
  refine ⟨qc_u (qc_u (qc_u (qc_u I 324 T.length (nI s)) 325 T.length x) 326 T.length y) 291 52 (nI (T.length + 1)), ?_, ⟨lF_u (lF_u (lF_u (lF_u f1 _ (by omega)) _ (by omega)) _ (by omega)) _ (by omega), ?_, ⟨?_, ⟨?_, ?_, ?_, hs⟩, ?_⟩, ?_, f6, fun i e he => ?_⟩, ?_⟩
  · unfold fX12_task
    simp only [qc_u_off _ _ (show (291 : Nat) ≠ 324 by decide), qc_u_off _ _ (show (291 : Nat) ≠ 325 by decide), qc_u_off _ _ (show (291 : Nat) ≠ 326 by decide), f3, qi_inbN hT (by decide : 2000 < 2 ^ 31), qc_gdt, nI_clamp (show T.length < 2 ^ 31 by omega), qi_s1]
  · rw [qc_u_ne _ _ (Or.inr (by decide)), qc_u_ne _ _ (Or.inl (by decide)), qc_u_ne _ _ (Or.inl (by decide)), qc_u_ne _ _ (Or.inl (by decide)), f2]
  · rw [qc_u_at]; rfl
  · simp only [qc_u_off _ _ (show (324 : Nat) ≠ 291 by decide), qc_u_off _ _ (show (324 : Nat) ≠ 325 by decide), qc_u_off _ _ (show (324 : Nat) ≠ 326 by decide), qc_u_at]
  · simp only [qc_u_off _ _ (show (325 : Nat) ≠ 291 by decide), qc_u_off _ _ (show (325 : Nat) ≠ 326 by decide), qc_u_at]
  · simp only [qc_u_off _ _ (show (326 : Nat) ≠ 291 by decide), qc_u_at]
  · refine tK_co (fun i hi => ?_) f4
    simp only [qc_u_off _ _ (show (324 : Nat) ≠ 291 by decide), qc_u_off _ _ (show (325 : Nat) ≠ 291 by decide), qc_u_off _ _ (show (326 : Nat) ≠ 291 by decide)]
    have n : ∀ (G : qTI) (a c : Nat) (v : Int32), qc_u G a T.length v c i = G c i := fun G a c v => qc_u_ne _ _ (Or.inr (by omega))
    simp only [n, and_self]
  · simp only [qc_u_off _ _ (show (317 : Nat) ≠ 291 by decide), qc_u_off _ _ (show (317 : Nat) ≠ 324 by decide), qc_u_off _ _ (show (317 : Nat) ≠ 325 by decide), qc_u_off _ _ (show (317 : Nat) ≠ 326 by decide)]
    exact f5
  · simp only [qc_u_off _ _ (show (315 : Nat) ≠ 291 by decide), qc_u_off _ _ (show (315 : Nat) ≠ 324 by decide), qc_u_off _ _ (show (315 : Nat) ≠ 325 by decide), qc_u_off _ _ (show (315 : Nat) ≠ 326 by decide), qc_u_off _ _ (show (316 : Nat) ≠ 291 by decide), qc_u_off _ _ (show (316 : Nat) ≠ 324 by decide), qc_u_off _ _ (show (316 : Nat) ≠ 325 by decide), qc_u_off _ _ (show (316 : Nat) ≠ 326 by decide)]
    exact f7 i e he
  · rw [qc_u_off _ _ (by decide), qc_u_off _ _ (by decide), qc_u_off _ _ (by decide), qc_u_off _ _ (by decide)]
/-- a task goes -/
theorem l_pop {t : Nat × Int32 × Int32} (h : lR q p I0 (t :: T) l I) : lR q p I0 T l (qc_u I 291 52 (nI T.length)) ∧ I 291 52 = nI (T.length + 1) ∧ I 324 T.length = nI t.1 ∧ I 325 T.length = t.2.1 ∧ I 326 T.length = t.2.2 ∧ t.1 ≤ 5 := by
  obtain ⟨f1, f2, ⟨f3, ⟨f8, f9, fa, fb⟩, f4⟩, f5, f6, f7⟩ := h
  have off : ∀ c, c ≠ 291 → qc_u I 291 52 (nI T.length) c = I c := fun c hc => qc_u_off _ _ hc
  refine ⟨⟨lF_u f1 _ (by omega), ?_, ⟨qc_u_at _ _ _ _, ?_⟩, ?_, f6, fun i e he => ?_⟩, f3, f8, f9, fa, fb⟩
  · rw [qc_u_ne _ _ (Or.inr (by decide)), f2]
  · rw [off 324 (by decide), off 325 (by decide), off 326 (by decide)]; exact f4
  · rw [off 317 (by decide)]; exact f5
  · rw [off 315 (by decide), off 316 (by decide)]; exact f7 i e he
/-- where a jump stands is kept -/
theorem l_jmp (h : lR q p I0 T l I) (j : Nat) (v : Int32) : lR q p I0 T l (qc_u I 327 j v) := by
  obtain ⟨f1, f2, ⟨f3, f4⟩, f5, f6, f7⟩ := h
  have off : ∀ c, c ≠ 327 → qc_u I 327 j v c = I c := fun c hc => qc_u_off _ _ hc
  refine ⟨lF_u f1 _ (by omega), ?_, ⟨?_, ?_⟩, ?_, f6, fun i e he => ?_⟩
  · rw [off 291 (by decide)]; exact f2
  · rw [off 291 (by decide)]; exact f3
  · rw [off 324 (by decide), off 325 (by decide), off 326 (by decide)]; exact f4
  · rw [off 317 (by decide)]; exact f5
  · rw [off 315 (by decide), off 316 (by decide)]; exact f7 i e he
end
