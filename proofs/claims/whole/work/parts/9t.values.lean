/-! values joined, functions applied, choices, by the class -/
section
variable {w : qcW} {I : qTI} {L : qTL} {D : qTD} {R : qTR} {c h pk : Nat} {l : List (Nat × Nat)}
theorem cx_maxN {a k : Nat} (ha : a < 2 ^ 30) (hk : k < 2 ^ 30) : fJ9_max_7cf53 w I L D R (nI a) (nI k) = some (nI (max a k), I, L, D, R) := by
  rw [cx_max]
  by_cases z : a < k
  · rw [if_pos ((qi_lt (by omega) (by omega)).mpr z), Nat.max_eq_right (by omega)]
  · rw [if_neg (fun y => z ((qi_lt (by omega) (by omega)).mp y)), Nat.max_eq_left (by omega)]
/-- both sides made of one kind -/
theorem kX_cc (hW : qc_WF w) (hR : qc_FR R) (hc : c = 270 ∨ c = 273 ∨ c = 276) {A y : List (Nat × Nat)} {kx ky k : Nat} (hx : kx ≤ 4) (hy : ky ≤ 4) (hk4 : k ≤ 4) (hjA : jl A A.length) (hjy : jf y) (hk : kC c (A ++ qs_sh A.length y) h pk I) (hl : (A ++ qs_sh A.length y).length < 4990) (hp : h ≤ pk) :
    ∃ I1 I2 : qTI, fX0_convert w I L D R c (nI ky) (nI k) = some ((), I1, L, D, R) ∧ fX0_convertAt w I1 L D R c (nI A.length) (nI kx) (nI k) = some ((), I2, L, D, R) ∧ kC c ((A ++ qs_cv kx k) ++ qs_sh (A ++ qs_cv kx k).length (y ++ qs_cv ky k)) h pk I2 ∧ fC c I I2 := by
  obtain ⟨I1, e1, k1, f1⟩ := kC_cv (w := w) (L := L) (D := D) hW hR hc hk hy hk4 (by omega) hp
  have c1 := qs_cv_len ky k
  rw [List.append_assoc] at k1
  have hl1 : (A ++ (qs_sh A.length y ++ qs_cv ky k)).length < 5000 := by
    rw [List.length_append] at hl
    rw [List.length_append, List.length_append]; omega
  obtain ⟨I2, e2, k2, f2⟩ := kC_cvat (w := w) (L := L) (D := D) hW hR hc hx hk4 k1 hl1
  refine ⟨I1, I2, e1, e2, ?_, fC_tr f1 f2⟩
  have hnj := qs_nj_cv (f := ky) (t := k) hy hk4
  by_cases z : kx = k
  · rw [if_pos z] at k2
    have : qs_cv kx k = [] := if_pos z
    rw [this, List.append_nil, qs_sh_app, qs_sh_nj hnj]
    exact k2
  · rw [if_neg z, mg_id hjA, List.map_append, mg_sh hjy, mg_nj hnj] at k2
    have : qs_cv kx k = [(1600 + 10 * kx + k, 0)] := if_neg z
    rw [this, qs_sh_app, qs_sh_nj hnj, List.length_append]
    rw [show A.length + [(1600 + 10 * kx + k, 0)].length = A.length + 1 from rfl]
    simp only [List.append_assoc, List.cons_append, List.nil_append] at k2 ⊢
    exact k2
theorem kX_jv (hW : qc_WF w) (hR : qc_FR R) (hc : c = 270 ∨ c = 273 ∨ c = 276) (h4 : R 267 4 = c) {m : Nat} (hm : m < 62) (hs : 4 ≤ qs_sv m) {A : List (Nat × Nat)} {x y : qDen} (hx : x.1 ≤ 4) (hy : y.1 ≤ 4) (hf : qs_fits m x.1 y.1 = true) (hjA : jl A A.length) (hjy : jf y.2.2.2) (hA : A = l ++ qs_sh l.length x.2.2.2) (hjx : jf x.2.2.2) (hk : kC c (A ++ qs_sh A.length y.2.2.2) (h + 2) pk I) (hl : (A ++ qs_sh A.length y.2.2.2).length < 4980) (hp : h + 2 ≤ pk) :
    ∃ I' : qTI, fX2_joinValues w I L D R m (nI A.length) (nI x.1) (nI y.1) = some (nI (qs_join m x y).1, I', L, D, R) ∧ kC c (l ++ qs_sh l.length (qs_join m x y).2.2.2) (h + 1) pk I' ∧ fC c I I' := by
  have hlv := qc_mf_lv m hm
  have l5 : (qc_mfV 0 m = 5) ↔ qs_sv m = 6 := by
    rw [hlv]
    rcases qs_sv_c m with ⟨z, s⟩ | ⟨z, s⟩ | ⟨z, s⟩ | ⟨z, s⟩ | ⟨z, s⟩ | ⟨z, s⟩ | ⟨z, s⟩ | ⟨z, s⟩ <;> (rw [s]; decide)
  have l3 : (qc_mfV 0 m = 3) ↔ qs_sv m = 4 := by
    rw [hlv]
    rcases qs_sv_c m with ⟨z, s⟩ | ⟨z, s⟩ | ⟨z, s⟩ | ⟨z, s⟩ | ⟨z, s⟩ | ⟨z, s⟩ | ⟨z, s⟩ | ⟨z, s⟩ <;> (rw [s]; decide)
  obtain ⟨-, op4, op5⟩ := qc_mf_op m hm
  have hAl : A.length = l.length + x.2.2.2.length := by rw [hA, List.length_append, qs_sh_len]
  unfold fX2_joinValues
  rw [show qc_l62 m = true from Nat.ble_eq.mpr hm, qc_gdt, h4, qc_WF_i hW hc]
  by_cases s6 : qs_sv m = 6
  · rw [if_pos (l5.mpr s6), qc_gdt]
    have hwh : qs_wh x.1 = true ∧ qs_wh y.1 = true := by
      unfold qs_fits at hf
      rw [if_neg (by omega), if_neg (by omega), if_pos s6] at hf
      exact Bool.and_eq_true_iff.mp hf
    have hx1 := qs_wh_of hwh.1
    have hr : 45 ≤ m ∧ m ≤ 47 := by have := qs_sv_c m; omega
    have hop : qs_op m = 100 * (m - 36) := by unfold qs_op; rw [if_neg (by omega), if_pos hr]; omega
    obtain ⟨I1, e1, k1, f1⟩ := kC_cv (w := w) (L := L) (D := D) hW hR hc hk hy (show 1 ≤ 4 by decide) (by omega) hp
    have e1 : fX0_convert w I L D R c (nI y.1) 1 = some ((), I1, L, D, R) := e1
    rw [e1, qc_bds, h4, qc_WF_i hW hc, qc_gdt, op5 (by omega), nI_add]
    have c1 := qs_cv_len y.1 1
    obtain ⟨I2, e2, k2, f2⟩ := kC_addm (w := w) (L := L) (D := D) hW hR hc k1 (o := qs_op m + x.1) (a := 0) (by omega) (by decide) (fun _ => Nat.zero_le _) (by rw [List.length_append]; omega) hp
    have e2 : fX0_add w I1 L D R c (nI (qs_op m + x.1)) 0 = some ((), I2, L, D, R) := e2
    rw [e2, qc_bds]
    have hj : qs_join m x y = d_bi x.1 x.1 1 [(qs_op m + x.1, 0)] x y := by unfold qs_join; rw [if_neg (by omega), if_pos s6]
    rw [hj]
    refine ⟨I2, rfl, ?_, fC_tr f1 f2⟩
    have hcv : qs_cv x.1 x.1 = [] := if_pos rfl
    have : l ++ qs_sh l.length (d_bi x.1 x.1 1 [(qs_op m + x.1, 0)] x y).2.2.2 = A ++ qs_sh A.length y.2.2.2 ++ qs_cv y.1 1 ++ [(qs_op m + x.1, 0)] := by
      show l ++ qs_sh l.length ((x.2.2.2 ++ qs_cv x.1 x.1) ++ qs_sh (x.2.2.2 ++ qs_cv x.1 x.1).length (y.2.2.2 ++ qs_cv y.1 1) ++ [(qs_op m + x.1, 0)]) = _
      rw [hcv, List.append_nil, qs_sh_app, qs_sh_app, qs_sh_sh, qs_sh_app, qs_sh_nj (qs_nj_cv hy (by decide)), qs_sh_nj (l := [(qs_op m + x.1, 0)]) (qs_nj_1 (by omega)), hAl, hA, Nat.add_comm x.2.2.2.length l.length]
      simp only [List.append_assoc]
    rw [this]
    exact k2
  rw [if_neg (fun q => s6 (l5.mp q)), cx_maxN (by omega) (by omega), qc_bds, h4, qc_WF_i hW hc, qc_gdt]
  obtain ⟨I1, I2, e1, e2, k2, f2⟩ := kX_cc (w := w) (L := L) (D := D) (kx := x.1) (ky := y.1) (k := max x.1 y.1) hW hR hc hx hy (by omega) hjA hjy hk (by omega) hp
  rw [e1, qc_bds, h4, qc_WF_i hW hc, qc_gdt, e2, qc_bds, show (1 : Int32) = nI 1 by decide, cx_maxN (by omega) (by decide), qc_bds, h4, qc_WF_i hW hc]
  have hcx := qs_cv_len x.1 (max x.1 y.1)
  have hcy := qs_cv_len y.1 (max x.1 y.1)
  have hlen : ((A ++ qs_cv x.1 (max x.1 y.1)) ++ qs_sh (A ++ qs_cv x.1 (max x.1 y.1)).length (y.2.2.2 ++ qs_cv y.1 (max x.1 y.1))).length < 4990 := by
    rw [List.length_append, qs_sh_len] at hl
    rw [List.length_append, qs_sh_len, List.length_append, List.length_append]; omega
  have hmm : ∀ t : List (Nat × Nat), ∀ k : Nat, qs_nj t → l ++ qs_sh l.length (d_bi k (max x.1 y.1) (max x.1 y.1) t x y).2.2.2 = ((A ++ qs_cv x.1 (max x.1 y.1)) ++ qs_sh (A ++ qs_cv x.1 (max x.1 y.1)).length (y.2.2.2 ++ qs_cv y.1 (max x.1 y.1))) ++ t := by
    intro t k hnj
    show l ++ qs_sh l.length ((x.2.2.2 ++ qs_cv x.1 (max x.1 y.1)) ++ qs_sh (x.2.2.2 ++ qs_cv x.1 (max x.1 y.1)).length (y.2.2.2 ++ qs_cv y.1 (max x.1 y.1)) ++ t) = _
    rw [qs_sh_app, qs_sh_app, qs_sh_sh, qs_sh_app l.length x.2.2.2, qs_sh_nj (l := t) hnj, qs_sh_nj (l := qs_cv x.1 (max x.1 y.1)) (qs_nj_cv hx (by omega)), List.length_append, List.length_append, hAl, hA, show x.2.2.2.length + (qs_cv x.1 (max x.1 y.1)).length + l.length = l.length + x.2.2.2.length + (qs_cv x.1 (max x.1 y.1)).length by omega]
    simp only [List.append_assoc]
  by_cases s4 : qs_sv m = 4
  · rw [if_pos (l3.mpr s4), qc_gdt, op4 s4, show (1400 : Int32) = nI 1400 by decide, nI_add]
    have hr : 36 ≤ m ∧ m ≤ 41 := by have := qs_sv_c m; omega
    obtain ⟨I3, e3, k3, f3⟩ := kC_addm (w := w) (L := L) (D := D) hW hR hc k2 (o := 1400 + max (max x.1 y.1) 1) (a := 0) (by omega) (by decide) (fun _ => Nat.zero_le _) (by omega) hp
    have e3 : fX0_add w I2 L D R c (nI (1400 + max (max x.1 y.1) 1)) 0 = some ((), I3, L, D, R) := e3
    rw [e3, qc_bds, h4, qc_WF_i hW hc, qc_gdt]
    obtain ⟨I4, e4, k4, f4⟩ := kC_add0 (w := w) (L := L) (D := D) hW hR hc k3 (o := 1500 + (m - 36)) (a := 0) (by omega) (by decide) (by rw [List.length_append]; show _ + 1 < 5000; omega) (by omega)
    have e4 : fX0_add w I3 L D R c (nI (1500 + (m - 36))) 0 = some ((), I4, L, D, R) := e4
    rw [e4, qc_bds]
    have hj : qs_join m x y = d_bi 0 (max x.1 y.1) (max x.1 y.1) [(1400 + qs_ko (max x.1 y.1), 0), (1500 + (m - 36), 0)] x y := by unfold qs_join; rw [if_neg (by omega), if_neg s6, if_pos s4]
    rw [hj, hmm [(1400 + qs_ko (max x.1 y.1), 0), (1500 + (m - 36), 0)] 0 (qs_nj_app (l := [(1400 + qs_ko (max x.1 y.1), 0)]) (m := [(1500 + (m - 36), 0)]) (qs_nj_1 (by unfold qs_ko; omega)) (qs_nj_1 (by omega)))]
    refine ⟨I4, rfl, ?_, fC_tr f2 (fC_tr f3 f4)⟩
    rw [List.append_assoc _ [_] [_]] at k4
    exact k4
  · rw [if_neg (fun q => s4 (l3.mp q)), qc_gdt, op5 (by omega), nI_add]
    have hop : 100 ≤ qs_op m ∧ qs_op m ≤ 800 := by
      have := qs_sv_c m
      unfold qs_op
      repeat' split
      all_goals omega
    obtain ⟨I3, e3, k3, f3⟩ := kC_addm (w := w) (L := L) (D := D) hW hR hc k2 (o := qs_op m + max (max x.1 y.1) 1) (a := 0) (by omega) (by decide) (fun _ => Nat.zero_le _) (by omega) hp
    have e3 : fX0_add w I2 L D R c (nI (qs_op m + max (max x.1 y.1) 1)) 0 = some ((), I3, L, D, R) := e3
    rw [e3, qc_bds]
    have hj : qs_join m x y = d_bi (max x.1 y.1) (max x.1 y.1) (max x.1 y.1) [(qs_op m + qs_ko (max x.1 y.1), 0)] x y := by unfold qs_join; rw [if_neg (by omega), if_neg s6, if_neg s4]
    rw [hj, hmm _ _ (qs_nj_1 (by unfold qs_ko; omega))]
    exact ⟨I3, rfl, k3, fC_tr f2 f3⟩
end
