/-! the reference lays code: by induction -/
section
variable {w : qcW} {I I0 : qTI} {L : qTL} {D : qTD} {R : qTR} {q p N c k : Nat} {T : qTs} {l : List (Nat × Nat)} {ds : List qDen} {out : qcO Unit}
theorem cv_len (f t : Nat) : (qs_cv f t).length ≤ 1 := by
  unfold qs_cv
  split
  · exact Nat.zero_le _
  · exact Nat.le_refl _
/-- and, or -/
theorem l_lg (hS : lS q p I0) {x a e v : Nat} {da de : qDen} (ih : ∀ y, y < x → lP w L D R q p I0 ds y) (ha : a < x) (he : e < x) (hda : ds[a]? = some da) (hde : ds[e]? = some de) (hs1 : 1 ≤ da.2.2.1) (hs2 : 1 ≤ de.2.2.1) (hx : x < 420) (hv : v ≤ 1)
    (h : lR q p I0 ((0, nI a, 0) :: (3, nI (1800 + v), nI (2 * x)) :: (0, nI e, 0) :: (3, nI 1802, nI (2 * x + 1)) :: (4, nI (2 * x), 0) :: (2, nI 1, nI v) :: (4, nI (2 * x + 1), 0) :: T) l I) (hT : T.length + 3 * (da.2.2.1 + de.2.2.1 + 1) ≤ 1900) (hN : 8 * (da.2.2.1 + de.2.2.1 + 1) + 1 ≤ N) : lV w L D R q p I0 (2 * x + 2) I T (l ++ qs_sh l.length (d_lg v da de).2.2.2) N (8 * (da.2.2.1 + de.2.2.1 + 1) - 1) (fX12_layAll_l12 w N (I, L, D, R)) := by
  rw [sh_lg hv]
  have v1 := ih a ha da hda 0 _ l I N h (by simp only [List.length_cons]; omega) (by omega)
  generalize hl1 : l ++ qs_sh l.length da.2.2.2 = l1 at v1
  refine lV_b (k2 := 2 * x + 2) (c2 := 8 * de.2.2.1 + 5) v1 (by simp only [List.length_append, List.length_cons]; omega) (by omega) (Nat.le_refl _) (by omega) (fun hl N1 I1 r1 j1 n1 => ?_)
  refine lV_j (k2 := 2 * x + 2) (c2 := 8 * de.2.2.1 + 4) hS r1 (by simp only [List.length_cons]; omega) (by omega) (by omega) (by simp only [List.length_append, List.length_cons]; omega) (by omega) (Nat.le_refl _) (by omega) (fun N2 I2 r2 j2 k2 n2 => ?_)
  have v2 := ih e he de hde 0 _ _ I2 N2 r2 (by simp only [List.length_cons]; omega) (by omega)
  rw [List.length_append, List.length_singleton] at v2
  refine lV_b (k2 := 2 * x + 2) (c2 := 4) v2 (by simp only [List.length_append, List.length_cons, qs_sh_len]; omega) (by omega) (Nat.le_refl _) (by omega) (fun hl2 N3 I3 r3 j3 n3 => ?_)
  have jx : I3 327 (2 * x) = nI l1.length := (j3 (2 * x) (by omega)).trans k2
  have e0 : l1 ++ [(1800 + v, 0)] ++ qs_sh (l1.length + 1) de.2.2.2 = l1 ++ (1800 + v, 0) :: qs_sh (l1.length + 1) de.2.2.2 := by simp only [List.append_assoc, List.singleton_append]
  rw [e0] at r3
  have el2 : (l1 ++ (1800 + v, 0) :: qs_sh (l1.length + 1) de.2.2.2).length = l1.length + 1 + de.2.2.2.length := by simp only [List.length_append, List.length_cons, qs_sh_len]; omega
  refine lV_j (k2 := 2 * x + 2) (c2 := 3) hS r3 (by simp only [List.length_cons]; omega) (by omega) (by omega) (by rw [el2]; simp only [List.length_append, List.length_cons, qs_sh_len]; omega) (by omega) (Nat.le_refl _) (by omega) (fun N4 I4 r4 j4 k4 n4 => ?_)
  have jx4 : I4 327 (2 * x) = nI l1.length := (j4 (2 * x) (by omega)).trans jx
  have e1 : (l1 ++ (1800 + v, 0) :: qs_sh (l1.length + 1) de.2.2.2) ++ [(1802, 0)] = l1 ++ (1800 + v, 0) :: (qs_sh (l1.length + 1) de.2.2.2 ++ [(1802, 0)]) := by simp only [List.append_assoc, List.cons_append]
  have r4' := r4
  rw [e1] at r4'
  have v3 := lt_4 (w := w) (L := L) (D := D) (R := R) (N := N4) hS r4' (by simp only [List.length_cons]; omega) (by omega) (by omega) jx4 (get_mid _ _ _)
  rw [set_mid] at v3
  refine lV_b (k2 := 2 * x + 2) (c2 := 2) v3 (by simp only [List.length_append, List.length_cons, List.length_nil]; omega) (by omega) (Nat.le_refl _) (by omega) (fun hl5 N5 I5 r5 j5 n5 => ?_)
  have v4 := lt_2 (w := w) (L := L) (D := D) (R := R) (N := N5) hS r5 (by simp only [List.length_cons]; omega) (by omega)
  refine lV_b (k2 := 2 * x + 2) (c2 := 1) v4 (by simp only [List.length_append, List.length_cons, List.length_nil]; omega) (by omega) (Nat.le_refl _) (by omega) (fun hl6 N6 I6 r6 j6 n6 => ?_)
  have jy : I6 327 (2 * x + 1) = nI (l1.length + 1 + de.2.2.2.length) := (j6 _ (Nat.zero_le _)).trans ((j5 _ (Nat.zero_le _)).trans (by rw [k4, el2]))
  have e2 : (l1 ++ (1800 + v, (l1 ++ (1800 + v, 0) :: (qs_sh (l1.length + 1) de.2.2.2 ++ [(1802, 0)])).length) :: (qs_sh (l1.length + 1) de.2.2.2 ++ [(1802, 0)])) ++ [(1, v)] = (l1 ++ (1800 + v, l1.length + 1 + de.2.2.2.length + 1) :: qs_sh (l1.length + 1) de.2.2.2) ++ (1802, 0) :: [(1, v)] := by
    have : (l1 ++ (1800 + v, 0) :: (qs_sh (l1.length + 1) de.2.2.2 ++ [(1802, 0)])).length = l1.length + 1 + de.2.2.2.length + 1 := by simp only [List.length_append, List.length_cons, List.length_nil, qs_sh_len]; omega
    rw [this]
    simp only [List.append_assoc, List.cons_append, List.nil_append]
  rw [e2] at r6
  have el3 : (l1 ++ (1800 + v, l1.length + 1 + de.2.2.2.length + 1) :: qs_sh (l1.length + 1) de.2.2.2).length = l1.length + 1 + de.2.2.2.length := by simp only [List.length_append, List.length_cons, qs_sh_len]; omega
  rw [← el3] at jy
  have v5 := lt_4 (w := w) (L := L) (D := D) (R := R) (N := N6) hS r6 (by omega) (by omega) (by omega) jy (get_mid _ _ _)
  rw [set_mid] at v5
  have e3 : (l1 ++ (1800 + v, l1.length + 1 + de.2.2.2.length + 1) :: qs_sh (l1.length + 1) de.2.2.2) ++ (1802, ((l1 ++ (1800 + v, l1.length + 1 + de.2.2.2.length + 1) :: qs_sh (l1.length + 1) de.2.2.2) ++ (1802, 0) :: [(1, v)]).length) :: [(1, v)] = l1 ++ (1800 + v, l1.length + 1 + de.2.2.2.length + 1) :: (qs_sh (l1.length + 1) de.2.2.2 ++ [(1802, l1.length + 1 + de.2.2.2.length + 2), (1, v)]) := by
    rw [List.length_append, el3]
    simp only [List.append_assoc, List.cons_append, List.length_cons, List.length_nil]
  rw [e3] at v5
  exact lV_k v5 (by omega) (Nat.le_refl _)
/-- a choice -/
theorem l_ch (hS : lS q p I0) {x a e g k : Nat} {da de dg : qDen} (ih : ∀ y, y < x → lP w L D R q p I0 ds y) (ha : a < x) (he : e < x) (hg : g < x) (hda : ds[a]? = some da) (hde : ds[e]? = some de) (hdg : ds[g]? = some dg) (hs1 : 1 ≤ da.2.2.1) (hs2 : 1 ≤ de.2.2.1) (hs3 : 1 ≤ dg.2.2.1) (h1 : de.1 ≤ 4) (h2 : dg.1 ≤ 4) (hk : k ≤ 4) (hx : x < 420)
    (h : lR q p I0 ((0, nI a, 0) :: (3, nI 1800, nI (2 * x)) :: (0, nI e, 0) :: (1, nI de.1, nI k) :: (3, nI 1802, nI (2 * x + 1)) :: (4, nI (2 * x), 0) :: (0, nI g, 0) :: (1, nI dg.1, nI k) :: (4, nI (2 * x + 1), 0) :: T) l I) (hT : T.length + 3 * (da.2.2.1 + de.2.2.1 + dg.2.2.1 + 1) ≤ 1900) (hN : 8 * (da.2.2.1 + de.2.2.1 + dg.2.2.1 + 1) + 1 ≤ N) : lV w L D R q p I0 (2 * x + 2) I T (l ++ qs_sh l.length (d_ch k da de dg).2.2.2) N (8 * (da.2.2.1 + de.2.2.1 + dg.2.2.1 + 1) - 1) (fX12_layAll_l12 w N (I, L, D, R)) := by
  have v1 := ih a ha da hda 0 _ l I N h (by simp only [List.length_cons]; omega) (by omega)
  obtain ⟨l1, hl1⟩ : ∃ l1, l1 = l ++ qs_sh l.length da.2.2.2 := ⟨_, rfl⟩
  obtain ⟨l2, hl2⟩ : ∃ l2, l2 = qs_sh (l1.length + 1) de.2.2.2 ++ qs_cv de.1 k := ⟨_, rfl⟩
  rw [sh_ch h1 h2 hk hl1 hl2]
  rw [← hl1] at v1
  have hc1 := cv_len dg.1 k
  refine lV_b (k2 := 2 * x + 2) (c2 := 8 * de.2.2.1 + 8 * dg.2.2.1 + 6) v1 (by simp only [List.length_append, List.length_cons]; omega) (by omega) (Nat.le_refl _) (by omega) (fun hl N1 I1 r1 j1 n1 => ?_)
  refine lV_j (k2 := 2 * x + 2) (c2 := 8 * de.2.2.1 + 8 * dg.2.2.1 + 5) hS r1 (by simp only [List.length_cons]; omega) (by omega) (by omega) (by simp only [List.length_append, List.length_cons]; omega) (by omega) (Nat.le_refl _) (by omega) (fun N2 I2 r2 j2 k2 n2 => ?_)
  have v2 := l_ak (N := N2) hS (ih e he) hde h1 hk r2 (by simp only [List.length_cons]; omega) (by omega)
  rw [List.length_append, List.length_singleton, List.append_assoc (l1 ++ _), ← hl2, List.append_assoc, List.singleton_append] at v2
  refine lV_b (k2 := 2 * x + 2) (c2 := 8 * dg.2.2.1 + 4) v2 (by simp only [List.length_append, List.length_cons, qs_sh_len]; omega) (by omega) (Nat.le_refl _) (by omega) (fun hlb N3 I3 r3 j3 n3 => ?_)
  have jx : I3 327 (2 * x) = nI l1.length := (j3 (2 * x) (by omega)).trans k2
  have el2 : (l1 ++ (1800, 0) :: l2).length = l1.length + 1 + l2.length := by simp only [List.length_append, List.length_cons]; omega
  refine lV_j (k2 := 2 * x + 2) (c2 := 8 * dg.2.2.1 + 3) hS r3 (by simp only [List.length_cons]; omega) (by omega) (by omega) (by rw [el2]; simp only [List.length_append, List.length_cons]; omega) (by omega) (Nat.le_refl _) (by omega) (fun N4 I4 r4 j4 k4 n4 => ?_)
  have jx4 : I4 327 (2 * x) = nI l1.length := (j4 (2 * x) (by omega)).trans jx
  have e1 : (l1 ++ (1800, 0) :: l2) ++ [(1802, 0)] = l1 ++ (1800, 0) :: (l2 ++ [(1802, 0)]) := by simp only [List.append_assoc, List.cons_append]
  rw [e1] at r4
  have v3 := lt_4 (w := w) (L := L) (D := D) (R := R) (N := N4) hS r4 (by simp only [List.length_cons]; omega) (by omega) (by omega) jx4 (get_mid _ _ _)
  rw [set_mid] at v3
  have e2 : (l1 ++ (1800, 0) :: (l2 ++ [(1802, 0)])).length = l1.length + 1 + l2.length + 1 := by simp only [List.length_append, List.length_cons, List.length_nil]; omega
  rw [e2] at v3
  refine lV_b (k2 := 2 * x + 2) (c2 := 8 * dg.2.2.1 + 2) v3 (by simp only [List.length_append, List.length_cons, List.length_nil]; omega) (by omega) (Nat.le_refl _) (by omega) (fun hl5 N5 I5 r5 j5 n5 => ?_)
  have v4 := l_ak (N := N5) hS (ih g hg) hdg h2 hk r5 (by simp only [List.length_cons]; omega) (by omega)
  have e3 : (l1 ++ (1800, l1.length + 1 + l2.length + 1) :: (l2 ++ [(1802, 0)])).length = l1.length + 1 + l2.length + 1 := by simp only [List.length_append, List.length_cons, List.length_nil]; omega
  have e4 : (l1 ++ (1800, l1.length + 1 + l2.length + 1) :: (l2 ++ [(1802, 0)])) ++ qs_sh (l1.length + 1 + l2.length + 1) dg.2.2.2 ++ qs_cv dg.1 k = (l1 ++ (1800, l1.length + 1 + l2.length + 1) :: l2) ++ (1802, 0) :: (qs_sh (l1.length + 1 + l2.length + 1) dg.2.2.2 ++ qs_cv dg.1 k) := by simp only [List.append_assoc, List.cons_append, List.nil_append]
  rw [e3, e4] at v4
  refine lV_b (k2 := 2 * x + 2) (c2 := 1) v4 (by simp only [List.length_append, List.length_cons, qs_sh_len]; omega) (by omega) (Nat.le_refl _) (by omega) (fun hl6 N6 I6 r6 j6 n6 => ?_)
  have el3 : (l1 ++ (1800, l1.length + 1 + l2.length + 1) :: l2).length = l1.length + 1 + l2.length := by simp only [List.length_append, List.length_cons]; omega
  have jy : I6 327 (2 * x + 1) = nI (l1 ++ (1800, l1.length + 1 + l2.length + 1) :: l2).length := (j6 _ (by omega)).trans ((j5 _ (Nat.zero_le _)).trans (by rw [k4, el2, el3]))
  have v5 := lt_4 (w := w) (L := L) (D := D) (R := R) (N := N6) hS r6 (by omega) (by omega) (by omega) jy (get_mid _ _ _)
  rw [set_mid] at v5
  have e5 : (l1 ++ (1800, l1.length + 1 + l2.length + 1) :: l2) ++ (1802, ((l1 ++ (1800, l1.length + 1 + l2.length + 1) :: l2) ++ (1802, 0) :: (qs_sh (l1.length + 1 + l2.length + 1) dg.2.2.2 ++ qs_cv dg.1 k)).length) :: (qs_sh (l1.length + 1 + l2.length + 1) dg.2.2.2 ++ qs_cv dg.1 k) = l1 ++ (1800, l1.length + 1 + l2.length + 1) :: (l2 ++ (1802, l1.length + 1 + l2.length + 1 + (dg.2.2.2 ++ qs_cv dg.1 k).length) :: (qs_sh (l1.length + 1 + l2.length + 1) dg.2.2.2 ++ qs_cv dg.1 k)) := by
    rw [List.length_append, el3]
    have : l1.length + 1 + l2.length + ((1802, 0) :: (qs_sh (l1.length + 1 + l2.length + 1) dg.2.2.2 ++ qs_cv dg.1 k)).length = l1.length + 1 + l2.length + 1 + (dg.2.2.2 ++ qs_cv dg.1 k).length := by simp only [List.length_append, List.length_cons, qs_sh_len]; omega
    rw [this]
    simp only [List.append_assoc, List.cons_append]
  rw [e5] at v5
  exact lV_k v5 (by omega) (Nat.le_refl _)
end
