/-! functions applied, the end of a choice, by the class -/
section
variable {w : qcW} {I : qTI} {L : qTL} {D : qTD} {R : qTR} {c h pk : Nat} {l : List (Nat × Nat)}
theorem kX_b64 (hW : qc_WF w) (hR : qc_FR R) (hc : c = 270 ∨ c = 273 ∨ c = 276) (h4 : R 267 4 = c) {m k : Nat} (hm : m < 62) {t A : List (Nat × Nat)}
    (ht : (qc_mfV 1 m = 0 ∧ t = []) ∨ (∃ o, 1500 ≤ o ∧ o < 1700 ∧ qc_mfV 1 m = nI o ∧ t = [(o, 0)]) ∨ (∃ o, 1700 ≤ o ∧ o + k ≤ 1750 ∧ qc_mfV 1 m = nI o ∧ t = [(o + k, 0)])) (hk : kC c A h pk I) (hl : A.length < 4990) (hp : h ≤ pk) :
    ∃ I' : qTI, fX2_applied_b64 w I L D R m (nI k) = some (nI k, I', L, D, R) ∧ kC c (A ++ t) h pk I' ∧ fC c I I' := by
  unfold fX2_applied_b64
  rw [show qc_l62 m = true from Nat.ble_eq.mpr hm, qc_gdt, h4, qc_WF_i hW hc, qc_gdt, qc_gdt]
  rcases ht with ⟨h1, h2⟩ | ⟨o, o1, o2, h1, h2⟩ | ⟨o, o1, o2, h1, h2⟩
  · rw [h1, if_pos (by decide), if_pos rfl, h2, List.append_nil]
    exact ⟨I, rfl, hk, fun _ _ _ _ => rfl⟩
  · rw [h1, if_pos (show nI o < 1700 from (qi_lt (b := 1700) (by omega) (by decide)).mpr o2), if_neg (fun z => by have := qi_nI_inj (j := 0) (by omega) (by decide) z; omega), h2]
    obtain ⟨I1, e1, k1, f1⟩ := kC_add0 (w := w) (L := L) (D := D) hW hR hc hk (o := o) (a := 0) (by omega) (by decide) (by omega) hp
    have e1 : fX0_add w I L D R c (nI o) 0 = some ((), I1, L, D, R) := e1
    rw [e1, qc_bds]
    exact ⟨I1, rfl, k1, f1⟩
  · rw [h1, if_neg (fun z => by have := (qi_lt (b := 1700) (by omega) (by decide)).mp z; omega), h2, nI_add]
    obtain ⟨I1, e1, k1, f1⟩ := kC_add0 (w := w) (L := L) (D := D) hW hR hc hk (o := o + k) (a := 0) (by omega) (by decide) (by omega) hp
    have e1 : fX0_add w I L D R c (nI (o + k)) 0 = some ((), I1, L, D, R) := e1
    rw [e1, qc_bds]
    exact ⟨I1, rfl, k1, f1⟩
theorem kX_b34 (hW : qc_WF w) (hR : qc_FR R) (hc : c = 270 ∨ c = 273 ∨ c = 276) (h4 : R 267 4 = c) {m kx k : Nat} (hm : m < 62) (hx : kx ≤ 4) (hk4 : k ≤ 4) (h2 : qc_mfV 2 m ≠ 2) {t A : List (Nat × Nat)}
    (ht : (qc_mfV 1 m = 0 ∧ t = []) ∨ (∃ o, 1500 ≤ o ∧ o < 1700 ∧ qc_mfV 1 m = nI o ∧ t = [(o, 0)]) ∨ (∃ o, 1700 ≤ o ∧ o + k ≤ 1750 ∧ qc_mfV 1 m = nI o ∧ t = [(o + k, 0)])) (hk : kC c A h pk I) (hl : A.length < 4980) (hp : h ≤ pk) (x2 j : Int32) :
    ∃ I' : qTI, fX2_applied_b34 w I L D R m x2 j (nI kx) (nI k) = some (nI k, I', L, D, R) ∧ kC c (A ++ qs_cv kx k ++ t) h pk I' ∧ fC c I I' := by
  unfold fX2_applied_b34
  rw [show qc_l62 m = true from Nat.ble_eq.mpr hm, qc_gdt, h4, qc_WF_i hW hc, qc_gdt]
  obtain ⟨I1, e1, k1, f1⟩ := kC_cv (w := w) (L := L) (D := D) hW hR hc hk hx hk4 (by omega) hp
  rw [e1, qc_bds, if_neg h2]
  have := qs_cv_len kx k
  obtain ⟨I2, e2, k2, f2⟩ := kX_b64 (w := w) (L := L) (D := D) hW hR hc h4 hm ht k1 (by rw [List.length_append]; omega) hp
  exact ⟨I2, e2, k2, fC_tr f1 f2⟩
theorem sh_un {x : qDen} {k kc : Nat} {t : List (Nat × Nat)} (hx : x.1 ≤ 4) (hk : kc ≤ 4) (ht : qs_nj t) : l ++ qs_sh l.length (d_un k kc t x).2.2.2 = (l ++ qs_sh l.length x.2.2.2) ++ qs_cv x.1 kc ++ t := by
  show l ++ qs_sh l.length (x.2.2.2 ++ qs_cv x.1 kc ++ t) = _
  rw [qs_sh_app, qs_sh_app, qs_sh_nj (qs_nj_cv hx hk), qs_sh_nj ht]
  simp only [List.append_assoc]
theorem kX_ap1 (hW : qc_WF w) (hR : qc_FR R) (hc : c = 270 ∨ c = 273 ∨ c = 276) (h4 : R 267 4 = c) {m : Nat} (hm : 22 ≤ m ∧ m ≤ 35) (h27 : ¬ (m = 27 ∨ m = 28)) {x : qDen} (hx1 : 1 ≤ x.1) (hx : x.1 ≤ 4) (hk : kC c (l ++ qs_sh l.length x.2.2.2) h pk I) (hl : (l ++ qs_sh l.length x.2.2.2).length < 4980) (hp : h ≤ pk) (j : Int32) :
    ∃ I' : qTI, fX2_applied w I L D R m (nI x.1) j (nI x.1) = some (nI (qs_fn m x).1, I', L, D, R) ∧ kC c (l ++ qs_sh l.length (qs_fn m x).2.2.2) h pk I' ∧ fC c I I' := by
  unfold fX2_applied fX2_applied_b28
  rw [show qc_l62 m = true from Nat.ble_eq.mpr (by omega), qc_gdt, cx_maxN (by omega) (by omega), qc_bds, Nat.max_self, qc_gdt]
  unfold qs_fn
  by_cases m22 : m = 22
  · subst m22
    rw [if_pos rfl, if_pos (by decide), sh_un hx hx (qs_nj_1 (by omega))]
    exact kX_b34 hW hR hc h4 (by decide) hx hx (by decide) (Or.inr (Or.inr ⟨1700, by decide, by omega, by decide, rfl⟩)) hk hl hp _ j
  rw [if_neg m22]
  by_cases m23 : m = 23 ∨ m = 24 ∨ m = 25
  · rw [if_pos m23, sh_un hx (by decide) (qs_nj_1 (by omega))]
    rcases m23 with rfl | rfl | rfl <;> rw [if_neg (by decide), if_neg (by decide)]
    · exact kX_b34 hW hR hc h4 (by decide) hx (k := 4) (by decide) (by decide) (Or.inr (Or.inr ⟨1710, by decide, by omega, by decide, rfl⟩)) hk hl hp _ j
    · exact kX_b34 hW hR hc h4 (by decide) hx (k := 4) (by decide) (by decide) (Or.inr (Or.inr ⟨1720, by decide, by omega, by decide, rfl⟩)) hk hl hp _ j
    · exact kX_b34 hW hR hc h4 (by decide) hx (k := 4) (by decide) (by decide) (Or.inr (Or.inr ⟨1730, by decide, by omega, by decide, rfl⟩)) hk hl hp _ j
  rw [if_neg m23]
  by_cases m26 : m = 26
  · subst m26
    rw [if_pos rfl, if_neg (by decide), if_pos rfl]
    by_cases z3 : x.1 = 3
    · rw [if_pos z3, if_pos (by rw [z3]; rfl), sh_un hx (by decide) (qs_nj_1 (by omega)), z3]
      have := kX_b34 (w := w) (L := L) (D := D) (m := 26) hW hR hc h4 (by decide) hx (k := 3) (by decide) (by decide) (Or.inr (Or.inr ⟨1740, by decide, by omega, by decide, rfl⟩)) hk hl hp (nI x.1) j
      rw [z3] at this
      exact this
    · rw [if_neg z3, if_neg (show ¬ nI x.1 = 3 from fun z => z3 (qi_nI_inj (j := 3) (by omega) (by decide) z)), sh_un hx (by decide) (qs_nj_1 (by omega))]
      exact kX_b34 hW hR hc h4 (by decide) hx (k := 4) (by decide) (by decide) (Or.inr (Or.inr ⟨1740, by decide, by omega, by decide, rfl⟩)) hk hl hp _ j
  rw [if_neg m26, if_neg m26]
  by_cases m29 : m = 29 ∨ m = 30 ∨ m = 31
  · rw [if_pos m29, sh_un hx (by decide) (qs_nj_1 (by omega))]
    rcases m29 with rfl | rfl | rfl <;> rw [if_neg (by decide)]
    · exact kX_b34 hW hR hc h4 (by decide) hx (k := 1) (by decide) (by decide) (Or.inr (Or.inl ⟨1651, by decide, by omega, by decide, rfl⟩)) hk hl hp _ j
    · exact kX_b34 hW hR hc h4 (by decide) hx (k := 1) (by decide) (by decide) (Or.inr (Or.inl ⟨1652, by decide, by omega, by decide, rfl⟩)) hk hl hp _ j
    · exact kX_b34 hW hR hc h4 (by decide) hx (k := 1) (by decide) (by decide) (Or.inr (Or.inl ⟨1653, by decide, by omega, by decide, rfl⟩)) hk hl hp _ j
  rw [if_neg m29, sh_un hx (by omega) qs_nj_nil]
  have hm2 : m = 32 ∨ m = 33 ∨ m = 34 ∨ m = 35 := by omega
  rcases hm2 with rfl | rfl | rfl | rfl <;> rw [if_neg (by decide)]
  · exact kX_b34 hW hR hc h4 (by decide) hx (k := 1) (by decide) (by decide) (Or.inl ⟨by decide, rfl⟩) hk hl hp _ j
  · exact kX_b34 hW hR hc h4 (by decide) hx (k := 2) (by decide) (by decide) (Or.inl ⟨by decide, rfl⟩) hk hl hp _ j
  · exact kX_b34 hW hR hc h4 (by decide) hx (k := 3) (by decide) (by decide) (Or.inl ⟨by decide, rfl⟩) hk hl hp _ j
  · exact kX_b34 hW hR hc h4 (by decide) hx (k := 4) (by decide) (by decide) (Or.inl ⟨by decide, rfl⟩) hk hl hp _ j
theorem kX_ap2 (hW : qc_WF w) (hR : qc_FR R) (hc : c = 270 ∨ c = 273 ∨ c = 276) (h4 : R 267 4 = c) {m : Nat} (hm : m = 27 ∨ m = 28) {A : List (Nat × Nat)} {x y : qDen} (hx1 : 1 ≤ x.1) (hx : x.1 ≤ 4) (hy : y.1 ≤ 4) (hjA : jl A A.length) (hjy : jf y.2.2.2) (hA : A = l ++ qs_sh l.length x.2.2.2) (hk : kC c (A ++ qs_sh A.length y.2.2.2) (h + 2) pk I) (hl : (A ++ qs_sh A.length y.2.2.2).length < 4980) (hp : h + 2 ≤ pk) :
    ∃ I' : qTI, fX2_applied w I L D R m (nI x.1) (nI A.length) (nI y.1) = some (nI (qs_fn2 m x y).1, I', L, D, R) ∧ kC c (l ++ qs_sh l.length (qs_fn2 m x y).2.2.2) (h + 1) pk I' ∧ fC c I I' := by
  have hAl : A.length = l.length + x.2.2.2.length := by rw [hA, List.length_append, qs_sh_len]
  unfold fX2_applied fX2_applied_b34 fX2_applied_b64
  obtain ⟨I1, I2, e1, e2, k2, f2⟩ := kX_cc (w := w) (L := L) (D := D) (kx := x.1) (ky := y.1) (k := max x.1 y.1) hW hR hc hx hy (by omega) hjA hjy hk (by omega) hp
  rw [show qc_l62 m = true from Nat.ble_eq.mpr (by omega), qc_gdt, cx_maxN (by omega) (by omega), qc_bds, if_pos (by rcases hm with rfl | rfl <;> decide), qc_gdt, h4, qc_WF_i hW hc, qc_gdt, e1, qc_bds, if_pos (by rcases hm with rfl | rfl <;> decide), h4, qc_WF_i hW hc, qc_gdt, e2, qc_bds, qc_gdt, h4, qc_WF_i hW hc, qc_gdt, qc_gdt]
  have hop : qc_mfV 1 m = nI (1750 + 10 * (m - 27)) := by rcases hm with rfl | rfl <;> decide
  rw [hop, if_neg (fun z => by have := (qi_lt (b := 1700) (by omega) (by decide)).mp z; omega), nI_add]
  have hcx := qs_cv_len x.1 (max x.1 y.1)
  have hcy := qs_cv_len y.1 (max x.1 y.1)
  have hlen : ((A ++ qs_cv x.1 (max x.1 y.1)) ++ qs_sh (A ++ qs_cv x.1 (max x.1 y.1)).length (y.2.2.2 ++ qs_cv y.1 (max x.1 y.1))).length < 4990 := by
    rw [List.length_append, qs_sh_len] at hl
    rw [List.length_append, qs_sh_len, List.length_append, List.length_append]; omega
  obtain ⟨I3, e3, k3, f3⟩ := kC_addm (w := w) (L := L) (D := D) hW hR hc k2 (o := 1750 + 10 * (m - 27) + max x.1 y.1) (a := 0) (by omega) (by decide) (fun _ => Nat.zero_le _) (by omega) hp
  have e3 : fX0_add w I2 L D R c (nI (1750 + 10 * (m - 27) + max x.1 y.1)) 0 = some ((), I3, L, D, R) := e3
  rw [e3, qc_bds]
  refine ⟨I3, rfl, ?_, fC_tr f2 f3⟩
  have : l ++ qs_sh l.length (qs_fn2 m x y).2.2.2 = ((A ++ qs_cv x.1 (max x.1 y.1)) ++ qs_sh (A ++ qs_cv x.1 (max x.1 y.1)).length (y.2.2.2 ++ qs_cv y.1 (max x.1 y.1))) ++ [(1750 + 10 * (m - 27) + max x.1 y.1, 0)] := by
    show l ++ qs_sh l.length ((x.2.2.2 ++ qs_cv x.1 (max x.1 y.1)) ++ qs_sh (x.2.2.2 ++ qs_cv x.1 (max x.1 y.1)).length (y.2.2.2 ++ qs_cv y.1 (max x.1 y.1)) ++ [(1750 + 10 * (m - 27) + max x.1 y.1, 0)]) = _
    rw [qs_sh_app, qs_sh_app, qs_sh_sh, qs_sh_app l.length x.2.2.2, qs_sh_nj (l := [(1750 + 10 * (m - 27) + max x.1 y.1, 0)]) (qs_nj_1 (by omega)), qs_sh_nj (l := qs_cv x.1 (max x.1 y.1)) (qs_nj_cv hx (by omega)), List.length_append, List.length_append, hAl, hA, show x.2.2.2.length + (qs_cv x.1 (max x.1 y.1)).length + l.length = l.length + x.2.2.2.length + (qs_cv x.1 (max x.1 y.1)).length by omega]
    simp only [List.append_assoc]
  rw [this]
  exact k3
theorem mg_sh1 {n : Nat} {l : List (Nat × Nat)} : (qs_sh (n + 1) l).map (qs_mg n) = qs_sh (n + 2) l := by
  unfold qs_sh
  rw [List.map_map]
  refine List.map_congr_left (fun q hq => ?_)
  show qs_mg n (qs_s1 (n + 1) q) = qs_s1 (n + 2) q
  by_cases z : qs_ij q.1 = true
  · rw [qs_s1_p z, qs_s1_p z]
    unfold qs_mg
    rw [if_pos ⟨z, by show n < q.2 + (n + 1); omega⟩]
    rfl
  · rw [qs_s1_n z, qs_s1_n z]
    unfold qs_mg
    rw [if_neg (fun y => z y.1)]
/-- the end of a choice -/
theorem kX_ch (hW : qc_WF w) (hR : qc_FR R) (hc : c = 270 ∨ c = 273 ∨ c = 276) {A A1 : List (Nat × Nat)} {d x y : qDen} {k : Nat} (hx : x.1 ≤ 4) (hy : y.1 ≤ 4) (hk4 : k ≤ 4) (hjA : jl A A.length) (hjx : jf x.2.2.2) (hA : A = l ++ qs_sh l.length d.2.2.2) (h1 : A1 = A ++ (1800, A.length + 1 + x.2.2.2.length + 1) :: qs_sh (A.length + 1) x.2.2.2)
    (hk : kC c (A1 ++ (1802, 0) :: qs_sh (A1.length + 1) y.2.2.2) h pk I) (hl : (A1 ++ (1802, 0) :: qs_sh (A1.length + 1) y.2.2.2).length < 4980) (hp : h ≤ pk) :
    ∃ I1 I2 I3 : qTI, fX0_convert w I L D R c (nI y.1) (nI k) = some ((), I1, L, D, R) ∧ fX0_aim w I1 L D R c (nI A1.length) = some ((), I2, L, D, R) ∧ fX0_convertAt w I2 L D R c (nI A1.length) (nI x.1) (nI k) = some ((), I3, L, D, R) ∧ kC c (l ++ qs_sh l.length (d_ch k d x y).2.2.2) h pk I3 ∧ fC c I I3 := by
  obtain ⟨I1, e1, q1, f1⟩ := kC_cv (w := w) (L := L) (D := D) hW hR hc hk hy hk4 (by omega) hp
  rw [List.append_assoc, List.cons_append] at q1
  obtain ⟨I2, e2, q2, f2, -⟩ := kC_aim (w := w) (L := L) (D := D) hW hR hc q1
  have hcy := qs_cv_len y.1 k
  have hAl : A.length = l.length + d.2.2.2.length := by rw [hA, List.length_append, qs_sh_len]
  have h1l : A1.length = l.length + d.2.2.2.length + 1 + x.2.2.2.length := by rw [h1, List.length_append, List.length_cons, qs_sh_len]; omega
  have hT : (A1 ++ (1802, 0) :: (qs_sh (A1.length + 1) y.2.2.2 ++ qs_cv y.1 k)).length = A1.length + (y.2.2.2.length + (qs_cv y.1 k).length) + 1 := by rw [List.length_append, List.length_cons, List.length_append, qs_sh_len]; omega
  rw [hT] at q2
  have hlen2 : (A1 ++ (1802, A1.length + (y.2.2.2.length + (qs_cv y.1 k).length) + 1) :: (qs_sh (A1.length + 1) y.2.2.2 ++ qs_cv y.1 k)).length < 5000 := by
    rw [List.length_append, List.length_cons, qs_sh_len] at hl
    rw [List.length_append, List.length_cons, List.length_append, qs_sh_len]; omega
  obtain ⟨I3, e3, q3, f3⟩ := kC_cvat (w := w) (L := L) (D := D) hW hR hc hx hk4 q2 hlen2
  refine ⟨I1, I2, I3, e1, e2, e3, ?_, fC_tr f1 (fC_tr f2 f3)⟩
  have hnx := qs_nj_cv (f := x.1) (t := k) hx hk4
  have hny := qs_nj_cv (f := y.1) (t := k) hy hk4
  have hgoal : l ++ qs_sh l.length (d_ch k d x y).2.2.2 = A ++ (1800, A.length + 1 + (x.2.2.2.length + (qs_cv x.1 k).length) + 1) :: (qs_sh (A.length + 1) x.2.2.2 ++ qs_cv x.1 k ++ (1802, A1.length + (qs_cv x.1 k).length + 1 + (y.2.2.2.length + (qs_cv y.1 k).length)) :: (qs_sh (A1.length + (qs_cv x.1 k).length + 1) y.2.2.2 ++ qs_cv y.1 k)) := by
    show l ++ qs_sh l.length (d.2.2.2 ++ [(1800, d.2.2.2.length + 1 + (x.2.2.2 ++ qs_cv x.1 k).length + 1)] ++ qs_sh (d.2.2.2.length + 1) (x.2.2.2 ++ qs_cv x.1 k) ++ [(1802, d.2.2.2.length + 1 + (x.2.2.2 ++ qs_cv x.1 k).length + 1 + (y.2.2.2 ++ qs_cv y.1 k).length)] ++ qs_sh (d.2.2.2.length + 1 + (x.2.2.2 ++ qs_cv x.1 k).length + 1) (y.2.2.2 ++ qs_cv y.1 k)) = _
    rw [qs_sh_app, qs_sh_app, qs_sh_app, qs_sh_app, qs_sh_sh, qs_sh_sh, qs_sh_app _ x.2.2.2, qs_sh_app _ y.2.2.2, qs_sh_nj hnx, qs_sh_nj hny]
    have s1 : ∀ a, qs_sh l.length [(1800, a)] = [(1800, a + l.length)] := fun a => rfl
    have s2 : ∀ a, qs_sh l.length [(1802, a)] = [(1802, a + l.length)] := fun a => rfl
    rw [s1, s2, hA, List.length_append, List.length_append, List.length_append, qs_sh_len, h1l]
    simp only [List.append_assoc, List.cons_append, List.nil_append]
    congr 3
    · congr 1; omega
    · rw [show d.2.2.2.length + 1 + l.length = l.length + d.2.2.2.length + 1 by omega]
      congr 2
      congr 1
      · congr 1; omega
      · congr 2; omega
  rw [hgoal]
  by_cases z : x.1 = k
  · rw [if_pos z] at q3
    have : qs_cv x.1 k = [] := if_pos z
    rw [this, List.append_nil]
    show kC c (A ++ (1800, A.length + 1 + x.2.2.2.length + 1) :: (qs_sh (A.length + 1) x.2.2.2 ++ (1802, A1.length + 1 + (y.2.2.2.length + (qs_cv y.1 k).length)) :: (qs_sh (A1.length + 1) y.2.2.2 ++ qs_cv y.1 k))) h pk I3
    rw [show A1.length + 1 + (y.2.2.2.length + (qs_cv y.1 k).length) = A1.length + (y.2.2.2.length + (qs_cv y.1 k).length) + 1 by omega]
    have e : ∀ n v, A ++ (1800, A.length + 1 + x.2.2.2.length + 1) :: (qs_sh (A.length + 1) x.2.2.2 ++ (1802, v) :: (qs_sh (n + 1) y.2.2.2 ++ qs_cv y.1 k)) = A1 ++ (1802, v) :: (qs_sh (n + 1) y.2.2.2 ++ qs_cv y.1 k) := fun n v => by
      rw [h1]; simp only [List.append_assoc, List.cons_append]
    rw [e]
    exact q3
  · rw [if_neg z] at q3
    have hcv : qs_cv x.1 k = [(1600 + 10 * x.1 + k, 0)] := if_neg z
    have m1 : A1.map (qs_mg A1.length) = A ++ (1800, A.length + 1 + x.2.2.2.length + 1 + 1) :: qs_sh (A.length + 1) x.2.2.2 := by
      have : A1.map (qs_mg A1.length) = A.map (qs_mg A1.length) ++ qs_mg A1.length (1800, A.length + 1 + x.2.2.2.length + 1) :: (qs_sh (A.length + 1) x.2.2.2).map (qs_mg A1.length) := by
        generalize A1.length = n
        rw [h1, List.map_append, List.map_cons]
      rw [this, mg_id (jl_up hjA (by omega)), mg_id (l := qs_sh (A.length + 1) x.2.2.2) (by rw [show A1.length = A.length + 1 + x.2.2.2.length by omega]; exact jl_sh hjx (by rw [List.length_append] at hl; omega))]
      unfold qs_mg
      rw [if_pos ⟨rfl, by show A1.length < A.length + 1 + x.2.2.2.length + 1; omega⟩]
    have m2 : qs_mg A1.length (1802, A1.length + (y.2.2.2.length + (qs_cv y.1 k).length) + 1) = (1802, A1.length + (y.2.2.2.length + (qs_cv y.1 k).length) + 1 + 1) := if_pos ⟨rfl, by show A1.length < A1.length + (y.2.2.2.length + (qs_cv y.1 k).length) + 1; omega⟩
    rw [List.map_cons, List.map_append, m1, mg_sh1, mg_nj hny, m2] at q3
    rw [hcv]
    show kC c (A ++ (1800, A.length + 1 + (x.2.2.2.length + 1) + 1) :: (qs_sh (A.length + 1) x.2.2.2 ++ [(1600 + 10 * x.1 + k, 0)] ++ (1802, A1.length + 1 + 1 + (y.2.2.2.length + (qs_cv y.1 k).length)) :: (qs_sh (A1.length + 1 + 1) y.2.2.2 ++ qs_cv y.1 k))) h pk I3
    rw [show A1.length + 1 + 1 + (y.2.2.2.length + (qs_cv y.1 k).length) = A1.length + (y.2.2.2.length + (qs_cv y.1 k).length) + 1 + 1 by omega, show A.length + 1 + (x.2.2.2.length + 1) + 1 = A.length + 1 + x.2.2.2.length + 1 + 1 by omega]
    simp only [List.append_assoc, List.cons_append, List.nil_append] at q3 ⊢
    exact q3
end
