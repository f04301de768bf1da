/-! the reference lays code: whole parts -/
def lE (q p : Nat) (I0 : qTI) (l : List (Nat × Nat)) (I : qTI) : Prop :=
  lF q p I0 I ∧ I 291 51 = 0 ∧ (I 317 (3 * q + p) = nI l.length ∧ l.length ≤ 200 ∧ ∀ i e, l[i]? = some e → I 315 (600 * q + 200 * p + i) = nI e.1 ∧ I 316 (600 * q + 200 * p + i) = nI e.2)
/-- code so far, if what came before (A) is not too much -/
def lT (q p : Nat) (I0 : qTI) (A : Prop) (l : List (Nat × Nat)) (I : qTI) : Prop :=
  (A ∧ l.length ≤ 200 → lE q p I0 l I) ∧ (¬ (A ∧ l.length ≤ 200) → lF q p I0 I ∧ I 291 51 = 1 ∧ ∃ m, m ≤ 200 ∧ I 317 (3 * q + p) = nI m)
section
variable {w : qcW} {I I0 : qTI} {L : qTL} {D : qTD} {R : qTR} {q p : Nat} {l : List (Nat × Nat)} {A : Prop} {ds : List qDen}
theorem le_here (hS : lS q p I0) (h : lF q p I0 I) {n : Nat} (hn : I 317 (3 * q + p) = nI n) : fX12_here w I L D R = some (nI n, I, L, D, R) := by
  obtain ⟨a1, a2⟩ := lS_i hS h
  obtain ⟨-, s2, -, s4⟩ := hS
  unfold fX12_here
  rw [a1, a2, l_i3, qi_inbN (by omega) (by decide), qc_gdt, nI_clamp (by omega), hn]
/-- an emit that finds room -/
theorem le_emit0 (hS : lS q p I0) (h : lF q p I0 I) {n : Nat} (hn : I 317 (3 * q + p) = nI n) (hl : n < 200) (o a : Int32) : fX12_emit w I L D R o a = some ((), qc_u (qc_u (qc_u I 315 (600 * q + 200 * p + n) o) 316 (600 * q + 200 * p + n) a) 317 (3 * q + p) (nI (n + 1)), L, D, R) := by
  obtain ⟨a1, a2⟩ := lS_i hS h
  have hh := le_here (w := w) (L := L) (D := D) (R := R) hS h hn
  obtain ⟨-, s2, -, s4⟩ := hS
  unfold fX12_emit
  rw [hh, qc_bds, if_neg (fun u => by have := qi_nI_inj (j := 200) (by omega) (by decide) u; omega)]
  simp only [qc_u_off _ _ (show (291 : Nat) ≠ 315 by decide), qc_u_off _ _ (show (291 : Nat) ≠ 316 by decide), a1, a2, l_ix, l_i3, qi_inbN (show 600 * q + 200 * p + n < 7200 by omega) (by decide : 7200 < 2 ^ 31), qi_inbN (show 3 * q + p < 36 by omega) (by decide : 36 < 2 ^ 31), qc_gdt, nI_clamp (show 600 * q + 200 * p + n < 2 ^ 31 by omega), nI_clamp (show 3 * q + p < 2 ^ 31 by omega), qc_u_off _ _ (show (317 : Nat) ≠ 315 by decide), qc_u_off _ _ (show (317 : Nat) ≠ 316 by decide), hn, qi_s1]
theorem le_emit1 (hS : lS q p I0) (h : lF q p I0 I) (hn : I 317 (3 * q + p) = nI 200) (o a : Int32) : fX12_emit w I L D R o a = some ((), qc_u I 291 51 1, L, D, R) := by
  unfold fX12_emit
  rw [le_here (w := w) (L := L) (D := D) (R := R) hS h hn, qc_bds, if_pos (show nI 200 = 200 from rfl)]
theorem lT_emit (hS : lS q p I0) (h : lT q p I0 A l I) (o a : Nat) : ∃ I' : qTI, fX12_emit w I L D R (nI o) (nI a) = some ((), I', L, D, R) ∧ lT q p I0 A (l ++ [(o, a)]) I' := by
  have hs2 := hS.2.1
  have hs4 := hS.2.2.2
  have hlen : (l ++ [(o, a)]).length = l.length + 1 := by rw [List.length_append]; rfl
  by_cases z : A ∧ l.length ≤ 200
  · obtain ⟨f1, f2, f5, f6, f7⟩ := h.1 z
    by_cases y : l.length = 200
    · refine ⟨_, le_emit1 hS f1 (by rw [f5, y]) _ _, fun u => by omega, fun _ => ⟨lF_u f1 _ (by omega), qc_u_at _ _ _ _, 200, Nat.le_refl _, by rw [qc_u_ne _ _ (Or.inl (by decide)), f5, y]⟩⟩
    · refine ⟨_, le_emit0 hS f1 f5 (by omega) _ _, fun _ => ⟨lF_u (lF_u (lF_u f1 _ (by omega)) _ (by omega)) _ (by omega), ?_, ?_, by omega, fun i e he => ?_⟩, fun u => absurd ⟨z.1, by omega⟩ u⟩
      · rw [qc_u_ne _ _ (Or.inl (by decide)), qc_u_ne _ _ (Or.inl (by decide)), qc_u_ne _ _ (Or.inl (by decide)), f2]
      · rw [qc_u_at, hlen]
      · simp only [qc_u_off _ _ (show (315 : Nat) ≠ 316 by decide), qc_u_off _ _ (show (315 : Nat) ≠ 317 by decide), qc_u_off _ _ (show (316 : Nat) ≠ 317 by decide)]
        by_cases z : i < l.length
        · rw [List.getElem?_append_left z] at he
          rw [qc_u_ne _ _ (Or.inr (by omega)), qc_u_ne _ _ (Or.inr (by omega)), qc_u_off _ _ (show (316 : Nat) ≠ 315 by decide)]
          exact f7 i e he
        · have hi : i = l.length := by
            have := (List.getElem?_eq_some_iff.mp he).1
            omega
          subst hi
          rw [List.getElem?_append_right (Nat.le_refl _), Nat.sub_self] at he
          cases he
          rw [qc_u_at, qc_u_at]
          exact ⟨rfl, rfl⟩
  · obtain ⟨f1, f2, m, f3, f4⟩ := h.2 z
    by_cases y : m = 200
    · subst y
      exact ⟨_, le_emit1 hS f1 f4 _ _, fun u => absurd ⟨u.1, by omega⟩ z, fun _ => ⟨lF_u f1 _ (by omega), qc_u_at _ _ _ _, 200, Nat.le_refl _, by rw [qc_u_ne _ _ (Or.inl (by decide)), f4]⟩⟩
    · refine ⟨_, le_emit0 hS f1 f4 (by omega) _ _, fun u => absurd ⟨u.1, by omega⟩ z, fun _ => ⟨lF_u (lF_u (lF_u f1 _ (by omega)) _ (by omega)) _ (by omega), ?_, m + 1, by omega, qc_u_at _ _ _ _⟩⟩
      rw [qc_u_ne _ _ (Or.inl (by decide)), qc_u_ne _ _ (Or.inl (by decide)), qc_u_ne _ _ (Or.inl (by decide)), f2]
theorem lT_be (hS : lS q p I0) (h : lT q p I0 A l I) {f t : Nat} (hf : f ≤ 4) (ht : t ≤ 4) : ∃ I' : qTI, fX12_becomes w I L D R (nI f) (nI t) = some ((), I', L, D, R) ∧ lT q p I0 A (l ++ qs_cv f t) I' := by
  unfold fX12_becomes qs_cv
  have e : nI f = nI t ↔ f = t := qi_nI_inj' (by omega) (by omega)
  by_cases z : f = t
  · rw [if_pos (e.mpr z), if_pos z, List.append_nil]
    exact ⟨I, rfl, h⟩
  · rw [if_neg (fun u => z (e.mp u)), if_neg z]
    have eo : (((1600 : Int32) + ((10 : Int32) * nI f)) + nI t) = nI (1600 + 10 * f + t) := by rw [show (1600 : Int32) = nI 1600 from rfl, show (10 : Int32) = nI 10 from rfl, qi_mul, nI_add, nI_add]
    obtain ⟨I', e1, e2⟩ := lT_emit (w := w) (L := L) (D := D) (R := R) hS h (1600 + 10 * f + t) 0
    have e1 : fX12_emit w I L D R (nI (1600 + 10 * f + t)) 0 = some ((), I', L, D, R) := e1
    rw [eo, e1, qc_bds]
    exact ⟨I', rfl, e2⟩
theorem lT_casts (hS : lS q p I0) (h : lT q p I0 A l I) {f v : Nat} (hf : f ≤ 4) (hv : v ≤ 7) : ∃ I' : qTI, fX12_casts w I L D R (nI f) (nI v) = some ((), I', L, D, R) ∧ lT q p I0 A (l ++ qs_cv f (qs_ck v) ++ (if v < 4 then [(1650 + v, 0)] else [])) I' := by
  have hck : qs_ck v ≤ 4 := by unfold qs_ck; split <;> omega
  have e31 : fX12_casts w I L D R (nI f) (nI v) = fX12_casts_b31 w I L D R (nI v) (nI (qs_ck v)) (nI f) := by
    rcases (show v = 0 ∨ v = 1 ∨ v = 2 ∨ v = 3 ∨ v = 4 ∨ v = 5 ∨ v = 6 ∨ v = 7 by omega) with z | z | z | z | z | z | z | z
    all_goals (subst z; rfl)
  obtain ⟨I1, e1, e2⟩ := lT_be (w := w) (L := L) (D := D) (R := R) hS h hf hck
  rw [e31]
  unfold fX12_casts_b31
  have e4 : (4 : Int32) ≤ nI v ↔ 4 ≤ v := qi_le (a := 4) (by decide) (by omega)
  rw [e1, qc_bds]
  by_cases z : 4 ≤ v
  · rw [if_pos (e4.mpr z), if_neg (by omega), List.append_nil]
    exact ⟨I1, rfl, e2⟩
  · rw [if_neg (fun u => z (e4.mp u)), if_pos (by omega), show (1650 : Int32) + nI v = nI (1650 + v) from nI_add 1650 v]
    obtain ⟨I2, f1, f2⟩ := lT_emit (w := w) (L := L) (D := D) (R := R) hS e2 (1650 + v) 0
    have f1 : fX12_emit w I1 L D R (nI (1650 + v)) 0 = some ((), I2, L, D, R) := f1
    rw [f1, qc_bds]
    exact ⟨I2, rfl, f2⟩
/-- a whole node -/
theorem lT_all (hS : lS q p I0) (hW : ∀ x d, ds[x]? = some d → nN I0 ds x d) (hds : ds.length ≤ 420) (h : lT q p I0 A l I) {x : Nat} {d : qDen} (hd : ds[x]? = some d) : ∃ I' : qTI, fX12_layAll w I L D R (nI x) = some ((), I', L, D, R) ∧ lT q p I0 A (l ++ qs_sh l.length d.2.2.2) I' := by
  obtain ⟨⟨b1, b2, b3, b4, b5, b6⟩, -⟩ := hW x d hd
  have hlen : (l ++ qs_sh l.length d.2.2.2).length = l.length + d.2.2.2.length := by rw [List.length_append, qs_sh_len]
  unfold fX12_layAll
  by_cases z : A ∧ l.length ≤ 200
  · obtain ⟨f1, f2, f5, f6, f7⟩ := h.1 z
    have off : ∀ c, c ≠ 291 → qc_u I 291 52 0 c = I c := fun c hc => qc_u_off _ _ hc
    have hr : lR q p I0 [] l (qc_u I 291 52 0) := ⟨lF_u f1 _ (by omega), by rw [qc_u_ne _ _ (Or.inr (by decide)), f2], ⟨qc_u_at _ _ _ _, trivial⟩, by rw [off 317 (by decide)]; exact f5, f6, fun i e he => by rw [off 315 (by decide), off 316 (by decide)]; exact f7 i e he⟩
    obtain ⟨I1, t1, t2, t3⟩ := l_task (w := w) (L := L) (D := D) (R := R) hr (s := 0) (by decide) (by decide) (nI x) 0
    have t1 : fX12_task w (qc_u I 291 52 0) L D R 0 (nI x) 0 = some ((), I1, L, D, R) := t1
    rw [t1, qc_bds]
    have hv := l_node (w := w) (L := L) (D := D) (R := R) hS hW hds x d hd 0 [] l I1 qcF t2 (by show 0 + 3 * d.2.2.1 ≤ 1900; omega) (by unfold qcF; omega)
    by_cases y : (l ++ qs_sh l.length d.2.2.2).length ≤ 200
    · obtain ⟨N', I', e1, e2, e3, e4⟩ := hv.1 y
      obtain ⟨N', rfl⟩ : ∃ k, N' = k + 1 := ⟨N' - 1, by unfold qcF at e4; omega⟩
      refine ⟨I', ?_, fun _ => ⟨e2.1, e2.2.1, e2.2.2.2⟩, fun u => absurd ⟨z.1, y⟩ u⟩
      rw [e1, fX12_layAll_l12_s]
      unfold fX12_layAll_b12
      rw [e2.2.2.1.1, if_pos (show nI ([] : qTs).length ≤ 0 from (by decide : nI 0 ≤ 0))]
    · obtain ⟨I', e1, e2⟩ := hv.2 (by omega)
      exact ⟨I', e1, fun u => absurd u.2 y, fun _ => ⟨e2.1, e2.2.1, 200, Nat.le_refl _, e2.2.2⟩⟩
  · obtain ⟨f1, f2, m, f3, f4⟩ := h.2 z
    have g0 : (qc_u I 291 52 0) 291 52 = nI 0 := qc_u_at _ _ _ _
    have e1 : fX12_task w (qc_u I 291 52 0) L D R 0 (nI x) 0 = some ((), qc_u (qc_u (qc_u (qc_u (qc_u I 291 52 0) 324 0 0) 325 0 (nI x)) 326 0 0) 291 52 (nI 1), L, D, R) := by
      unfold fX12_task
      simp only [qc_u_off _ _ (show (291 : Nat) ≠ 324 by decide), qc_u_off _ _ (show (291 : Nat) ≠ 325 by decide), qc_u_off _ _ (show (291 : Nat) ≠ 326 by decide), g0, qi_inbN (show 0 < 2000 by decide) (by decide : 2000 < 2 ^ 31), qc_gdt, nI_clamp (show 0 < 2 ^ 31 by decide)]
      rfl
    rw [e1, qc_bds]
    refine ⟨qc_u (qc_u (qc_u (qc_u (qc_u I 291 52 0) 324 0 0) 325 0 (nI x)) 326 0 0) 291 52 (nI 1), ?_, fun u => absurd ⟨u.1, by omega⟩ z, fun _ => ⟨lF_u (lF_u (lF_u (lF_u (lF_u f1 _ (by omega)) _ (by omega)) _ (by omega)) _ (by omega)) _ (by omega), ?_, m, f3, ?_⟩⟩
    · have e2 : qcF = 4095 + 1 := rfl
      rw [e2, fX12_layAll_l12_s]
      unfold fX12_layAll_b12
      rw [qc_u_at, if_neg (by decide), if_neg (by
        rw [qc_u_ne _ _ (Or.inr (by decide)), qc_u_ne _ _ (Or.inl (by decide)), qc_u_ne _ _ (Or.inl (by decide)), qc_u_ne _ _ (Or.inl (by decide)), qc_u_ne _ _ (Or.inr (by decide)), f2]
        decide)]
    · rw [qc_u_ne _ _ (Or.inr (by decide)), qc_u_ne _ _ (Or.inl (by decide)), qc_u_ne _ _ (Or.inl (by decide)), qc_u_ne _ _ (Or.inl (by decide)), qc_u_ne _ _ (Or.inr (by decide)), f2]
    · rw [qc_u_ne _ _ (Or.inl (by decide)), qc_u_ne _ _ (Or.inl (by decide)), qc_u_ne _ _ (Or.inl (by decide)), qc_u_ne _ _ (Or.inl (by decide)), qc_u_ne _ _ (Or.inl (by decide)), f4]
end
