/-! the reference lays code: nodes -/
theorem set_mid {α : Type} (x y : α) (r : List α) : ∀ l : List α, (l ++ x :: r).set l.length y = l ++ y :: r
  | [] => rfl
  | a :: l => by
    show a :: ((l ++ x :: r).set l.length y) = a :: (l ++ y :: r)
    rw [set_mid x y r l]
theorem get_mid {α : Type} (x : α) (l r : List α) : (l ++ x :: r)[l.length]? = some x := by
  rw [List.getElem?_append_right (Nat.le_refl _), Nat.sub_self]
  rfl
theorem sh_bi {l : List (Nat × Nat)} {x y : qDen} {k kx ky : Nat} {t : List (Nat × Nat)} (hx : x.1 ≤ 4) (hy : y.1 ≤ 4) (hkx : kx ≤ 4) (hky : ky ≤ 4) (ht : qs_nj t) : l ++ qs_sh l.length (d_bi k kx ky t x y).2.2.2 = ((l ++ qs_sh l.length x.2.2.2 ++ qs_cv x.1 kx) ++ qs_sh (l ++ qs_sh l.length x.2.2.2 ++ qs_cv x.1 kx).length y.2.2.2 ++ qs_cv y.1 ky) ++ t := by
  show l ++ qs_sh l.length ((x.2.2.2 ++ qs_cv x.1 kx) ++ qs_sh (x.2.2.2 ++ qs_cv x.1 kx).length (y.2.2.2 ++ qs_cv y.1 ky) ++ t) = _
  rw [qs_sh_app, qs_sh_app, qs_sh_app, qs_sh_sh, qs_sh_app, qs_sh_nj (qs_nj_cv hx hkx), qs_sh_nj (qs_nj_cv hy hky), qs_sh_nj ht]
  have e : (x.2.2.2 ++ qs_cv x.1 kx).length + l.length = (l ++ qs_sh l.length x.2.2.2 ++ qs_cv x.1 kx).length := by
    simp only [List.length_append, qs_sh_len]; omega
  rw [e]
  simp only [List.append_assoc]
theorem sh_lg {l : List (Nat × Nat)} {x y : qDen} {v : Nat} (hv : v ≤ 1) : l ++ qs_sh l.length (d_lg v x y).2.2.2 = (l ++ qs_sh l.length x.2.2.2) ++ (1800 + v, (l ++ qs_sh l.length x.2.2.2).length + 1 + y.2.2.2.length + 1) :: (qs_sh ((l ++ qs_sh l.length x.2.2.2).length + 1) y.2.2.2 ++ [(1802, (l ++ qs_sh l.length x.2.2.2).length + 1 + y.2.2.2.length + 2), (1, v)]) := by
  have el : (l ++ qs_sh l.length x.2.2.2).length = l.length + x.2.2.2.length := by rw [List.length_append, qs_sh_len]
  have hj : qs_ij (1800 + v) = true := by
    rcases (show v = 0 ∨ v = 1 by omega) with z | z <;> (subst z; rfl)
  show l ++ qs_sh l.length (x.2.2.2 ++ [(1800 + v, x.2.2.2.length + 1 + y.2.2.2.length + 1)] ++ qs_sh (x.2.2.2.length + 1) y.2.2.2 ++ [(1802, x.2.2.2.length + 1 + y.2.2.2.length + 2), (1, v)]) = _
  rw [qs_sh_app, qs_sh_app, qs_sh_app, qs_sh_sh, el]
  have e1 : qs_sh l.length [(1800 + v, x.2.2.2.length + 1 + y.2.2.2.length + 1)] = [(1800 + v, l.length + x.2.2.2.length + 1 + y.2.2.2.length + 1)] := by
    show [qs_s1 l.length (1800 + v, x.2.2.2.length + 1 + y.2.2.2.length + 1)] = _
    rw [qs_s1_p hj]
    show [(1800 + v, x.2.2.2.length + 1 + y.2.2.2.length + 1 + l.length)] = _
    rw [show x.2.2.2.length + 1 + y.2.2.2.length + 1 + l.length = l.length + x.2.2.2.length + 1 + y.2.2.2.length + 1 by omega]
  have e2 : qs_sh l.length [(1802, x.2.2.2.length + 1 + y.2.2.2.length + 2), (1, v)] = [(1802, l.length + x.2.2.2.length + 1 + y.2.2.2.length + 2), (1, v)] := by
    show [(1802, x.2.2.2.length + 1 + y.2.2.2.length + 2 + l.length), (1, v)] = _
    rw [show x.2.2.2.length + 1 + y.2.2.2.length + 2 + l.length = l.length + x.2.2.2.length + 1 + y.2.2.2.length + 2 by omega]
  rw [e1, e2, show x.2.2.2.length + 1 + l.length = l.length + x.2.2.2.length + 1 by omega]
  simp only [List.append_assoc, List.singleton_append, List.cons_append, List.nil_append]
theorem sh_ch {l : List (Nat × Nat)} {c x y : qDen} {k : Nat} (hx : x.1 ≤ 4) (hy : y.1 ≤ 4) (hk : k ≤ 4) {l1 l2 : List (Nat × Nat)} (h1 : l1 = l ++ qs_sh l.length c.2.2.2) (h2 : l2 = qs_sh (l1.length + 1) x.2.2.2 ++ qs_cv x.1 k) : l ++ qs_sh l.length (d_ch k c x y).2.2.2 = l1 ++ (1800, l1.length + 1 + l2.length + 1) :: (l2 ++ (1802, l1.length + 1 + l2.length + 1 + (y.2.2.2 ++ qs_cv y.1 k).length) :: (qs_sh (l1.length + 1 + l2.length + 1) y.2.2.2 ++ qs_cv y.1 k)) := by
  have el : l1.length = l.length + c.2.2.2.length := by rw [h1, List.length_append, qs_sh_len]
  have el2 : l2.length = (x.2.2.2 ++ qs_cv x.1 k).length := by rw [h2, List.length_append, qs_sh_len, List.length_append]
  show l ++ qs_sh l.length (c.2.2.2 ++ [(1800, c.2.2.2.length + 1 + (x.2.2.2 ++ qs_cv x.1 k).length + 1)] ++ qs_sh (c.2.2.2.length + 1) (x.2.2.2 ++ qs_cv x.1 k) ++ [(1802, c.2.2.2.length + 1 + (x.2.2.2 ++ qs_cv x.1 k).length + 1 + (y.2.2.2 ++ qs_cv y.1 k).length)] ++ qs_sh (c.2.2.2.length + 1 + (x.2.2.2 ++ qs_cv x.1 k).length + 1) (y.2.2.2 ++ qs_cv y.1 k)) = _
  rw [← el2, qs_sh_app, qs_sh_app, qs_sh_app, qs_sh_app, qs_sh_sh, qs_sh_sh, qs_sh_app, qs_sh_app, qs_sh_nj (qs_nj_cv hx hk), qs_sh_nj (qs_nj_cv hy hk)]
  have e1 : qs_sh l.length [(1800, c.2.2.2.length + 1 + l2.length + 1)] = [(1800, l1.length + 1 + l2.length + 1)] := by
    show [(1800, c.2.2.2.length + 1 + l2.length + 1 + l.length)] = _
    rw [show c.2.2.2.length + 1 + l2.length + 1 + l.length = l1.length + 1 + l2.length + 1 by omega]
  have e2 : qs_sh l.length [(1802, c.2.2.2.length + 1 + l2.length + 1 + (y.2.2.2 ++ qs_cv y.1 k).length)] = [(1802, l1.length + 1 + l2.length + 1 + (y.2.2.2 ++ qs_cv y.1 k).length)] := by
    show [(1802, c.2.2.2.length + 1 + l2.length + 1 + (y.2.2.2 ++ qs_cv y.1 k).length + l.length)] = _
    rw [show c.2.2.2.length + 1 + l2.length + 1 + (y.2.2.2 ++ qs_cv y.1 k).length + l.length = l1.length + 1 + l2.length + 1 + (y.2.2.2 ++ qs_cv y.1 k).length by omega]
  rw [e1, e2, show c.2.2.2.length + 1 + l.length = l1.length + 1 by omega, show c.2.2.2.length + 1 + l2.length + 1 + l.length = l1.length + 1 + l2.length + 1 by omega]
  rw [← List.append_assoc l, ← List.append_assoc l, ← List.append_assoc l, ← List.append_assoc l, ← h1, ← h2]
  simp only [List.append_assoc, List.singleton_append, List.cons_append, List.nil_append]
section
variable {w : qcW} {I I0 : qTI} {L : qTL} {D : qTD} {R : qTR} {q p N c k : Nat} {T : qTs} {l : List (Nat × Nat)} {ds : List qDen} {out : qcO Unit}
theorem lV_I {J : qTI} (h : lV w L D R q p I0 k J T l N c out) (e : J 327 = I 327) : lV w L D R q p I0 k I T l N c out := by
  unfold lV at h ⊢
  rw [e] at h
  exact h
theorem lV_j {o j k2 c2 : Nat} {T2 : qTs} {l2 : List (Nat × Nat)} (hS : lS q p I0) (h : lR q p I0 ((3, nI o, nI j) :: T) l I) (hT : T.length < 2000) (hN : 2 ≤ N) (hj : j < 840) (hl : l.length + 1 ≤ l2.length) (h1 : j + 1 ≤ k) (h2 : k2 ≤ k) (hc : 1 + c2 ≤ c)
    (g : ∀ N' I', lR q p I0 T (l ++ [(o, 0)]) I' → (∀ i, i ≠ j → I' 327 i = I 327 i) → I' 327 j = nI l.length → N ≤ N' + 1 → lV w L D R q p I0 k2 I' T2 l2 N' c2 (fX12_layAll_l12 w N' (I', L, D, R))) : lV w L D R q p I0 k I T2 l2 N c (fX12_layAll_l12 w N (I, L, D, R)) := by
  obtain ⟨a1, a2⟩ := lt_3 (w := w) (L := L) (D := D) (R := R) (N := N) hS h hT hN hj
  by_cases z : l.length + 1 ≤ 200
  · obtain ⟨N', I', e1, e2, e3, e4, e5⟩ := a1 z
    rw [e1]
    obtain ⟨g1, g2⟩ := g N' I' e2 e3 e4 e5
    refine ⟨fun y => ?_, g2⟩
    obtain ⟨N2, I2, f1, f2, f3, f4⟩ := g1 y
    exact ⟨N2, I2, f1, f2, fun i hi => (f3 i (by omega)).trans (e3 i (by omega)), by omega⟩
  · exact ⟨fun y => by omega, fun _ => a2 (by omega)⟩
theorem l_tok (h : lR q p I0 T l I) {a ka : Nat} (ha : a < 420) (hk : I 303 a = nI ka) (hT : T.length < 1990) (y : Int32) : ∃ I' : qTI, fX12_taskOfKind w I L D R (nI a) y = some ((), I', L, D, R) ∧ lR q p I0 ((0, nI a, 0) :: (1, nI ka, y) :: T) l I' ∧ I' 327 = I 327 := by
  obtain ⟨I1, e1, e2, e3⟩ := l_task (w := w) (L := L) (D := D) (R := R) h (s := 1) (by decide) (by omega) (nI ka) y
  obtain ⟨I2, f1, f2, f3⟩ := l_task (w := w) (L := L) (D := D) (R := R) e2 (s := 0) (by decide) (by rw [List.length_cons]; omega) (nI a) 0
  have e1 : fX12_task w I L D R 1 (nI ka) y = some ((), I1, L, D, R) := e1
  have f1 : fX12_task w I1 L D R 0 (nI a) 0 = some ((), I2, L, D, R) := f1
  refine ⟨I2, ?_, f2, f3.trans e3⟩
  unfold fX12_taskOfKind
  rw [qi_inbN ha (by decide), qc_gdt, nI_clamp (by omega), hk, e1, qc_bds, f1, qc_bds]
/-- what is to be shown of a node -/
def lP (w : qcW) (L : qTL) (D : qTD) (R : qTR) (q p : Nat) (I0 : qTI) (ds : List qDen) (x : Nat) : Prop :=
  ∀ d, ds[x]? = some d → ∀ y0 T l I N, lR q p I0 ((0, nI x, y0) :: T) l I → T.length + 3 * d.2.2.1 ≤ 1900 → 8 * d.2.2.1 + 2 ≤ N → lV w L D R q p I0 (2 * x + 2) I T (l ++ qs_sh l.length d.2.2.2) N (8 * d.2.2.1) (fX12_layAll_l12 w N (I, L, D, R))
/-- a node, then made of a kind -/
theorem l_ak (hS : lS q p I0) {a kx : Nat} {d : qDen} {y0 : Int32} (hP : lP w L D R q p I0 ds a) (hd : ds[a]? = some d) (h1 : d.1 ≤ 4) (hk : kx ≤ 4) (h : lR q p I0 ((0, nI a, y0) :: (1, nI d.1, nI kx) :: T) l I) (hT : T.length + 1 + 3 * d.2.2.1 ≤ 1900) (hN : 8 * d.2.2.1 + 3 ≤ N) : lV w L D R q p I0 (2 * a + 2) I T (l ++ qs_sh l.length d.2.2.2 ++ qs_cv d.1 kx) N (8 * d.2.2.1 + 1) (fX12_layAll_l12 w N (I, L, D, R)) := by
  have hv := hP d hd y0 _ l I N h (by rw [List.length_cons]; omega) (by omega)
  refine lV_b (k2 := 0) hv (by rw [List.length_append (as := l ++ _)]; omega) (Nat.le_refl _) (by omega) (Nat.le_refl _) (fun hl N' I' hr hj hN' => ?_)
  exact lt_1 hS hr (by omega) (by omega) h1 hk
end
