/-! what stands behind sums, typed -/
theorem T_neg {nr : Nat} {k : Nat} (h1 : 1 ≤ k) (h2 : k ≤ 4) : qs_T nr [(1200 + k, 0)] [k] [k] := by
  refine ⟨qs_nj_1 (by omega), fun s hm hz1 hz2 => qs_ty_1 ?_ (by omega) (by omega) (by simp only [List.length_cons, List.length_nil, List.length_append] at hz1 hz2 ⊢; omega) (by simp only [List.length_cons, List.length_nil, List.length_append] at hz1 hz2 ⊢; omega)⟩
  exact Or.inr (Or.inr (Or.inr (Or.inr (Or.inr (Or.inr (Or.inr (Or.inr (Or.inr (Or.inl (⟨k, s, h1, h2, rfl, rfl, rfl⟩))))))))))
theorem T_turn {nr : Nat} {k : Nat} (h1 : 1 ≤ k) (h2 : k ≤ 2) : qs_T nr [(1300 + k, 0)] [k] [k] := by
  refine ⟨qs_nj_1 (by omega), fun s hm hz1 hz2 => qs_ty_1 ?_ (by omega) (by omega) (by simp only [List.length_cons, List.length_nil, List.length_append] at hz1 hz2 ⊢; omega) (by simp only [List.length_cons, List.length_nil, List.length_append] at hz1 hz2 ⊢; omega)⟩
  exact Or.inr (Or.inr (Or.inr (Or.inr (Or.inr (Or.inr (Or.inr (Or.inr (Or.inr (Or.inr (Or.inl (⟨k, s, h1, h2, rfl, rfl, rfl⟩)))))))))))
theorem T_fetch {nr : Nat} {l c : Nat} (h1 : l < 8) (h2 : c < 10) : qs_T nr [(10 + l, c)] [1] [qw_kd l] := by
  refine ⟨qs_nj_1 (by omega), fun s hm hz1 hz2 => qs_ty_1 ?_ (by omega) (by omega) (by simp only [List.length_cons, List.length_nil, List.length_append] at hz1 hz2 ⊢; omega) (by simp only [List.length_cons, List.length_nil, List.length_append] at hz1 hz2 ⊢; omega)⟩
  exact Or.inr (Or.inr (Or.inr (Or.inl (⟨l, s, h1, rfl, qi_inbN h2 (by decide), rfl, rfl⟩))))
theorem T_ar {nr : Nat} {g k : Nat} (h1 : 1 ≤ g) (h2 : g ≤ 5) (h3 : 1 ≤ k) (h4 : k ≤ 4) : qs_T nr [(100 * g + k, 0)] [k, k] [k] := by
  refine ⟨qs_nj_1 (by omega), fun s hm hz1 hz2 => qs_ty_1 ?_ (by omega) (by omega) (by simp only [List.length_cons, List.length_nil, List.length_append] at hz1 hz2 ⊢; omega) (by simp only [List.length_cons, List.length_nil, List.length_append] at hz1 hz2 ⊢; omega)⟩
  exact Or.inr (Or.inr (Or.inr (Or.inr (Or.inr (Or.inl (⟨g, k, s, h1, h2, h3, h4, rfl, rfl, rfl⟩))))))
theorem T_mx {nr : Nat} {g k : Nat} (h1 : 6 ≤ g) (h2 : g ≤ 8) (h3 : 1 ≤ k) (h4 : k ≤ 2) : qs_T nr [(100 * g + k, 0)] [k, k] [k] := by
  refine ⟨qs_nj_1 (by omega), fun s hm hz1 hz2 => qs_ty_1 ?_ (by omega) (by omega) (by simp only [List.length_cons, List.length_nil, List.length_append] at hz1 hz2 ⊢; omega) (by simp only [List.length_cons, List.length_nil, List.length_append] at hz1 hz2 ⊢; omega)⟩
  exact Or.inr (Or.inr (Or.inr (Or.inr (Or.inr (Or.inr (Or.inl (⟨g, k, s, h1, h2, h3, h4, rfl, rfl, rfl⟩)))))))
theorem T_mx0 {nr : Nat} {g : Nat} (h1 : 6 ≤ g) (h2 : g ≤ 8) : qs_T nr [(100 * g + 1, 0)] [0, 0] [0] := by
  refine ⟨qs_nj_1 (by omega), fun s hm hz1 hz2 => qs_ty_1 ?_ (by omega) (by omega) (by simp only [List.length_cons, List.length_nil, List.length_append] at hz1 hz2 ⊢; omega) (by simp only [List.length_cons, List.length_nil, List.length_append] at hz1 hz2 ⊢; omega)⟩
  exact Or.inr (Or.inr (Or.inr (Or.inr (Or.inr (Or.inr (Or.inr (Or.inl (⟨g, s, h1, h2, rfl, rfl, rfl⟩))))))))
theorem T_sf {nr : Nat} {g k : Nat} (h1 : 9 ≤ g) (h2 : g ≤ 11) (h3 : 1 ≤ k) (h4 : k ≤ 2) : qs_T nr [(100 * g + k, 0)] [1, k] [k] := by
  refine ⟨qs_nj_1 (by omega), fun s hm hz1 hz2 => qs_ty_1 ?_ (by omega) (by omega) (by simp only [List.length_cons, List.length_nil, List.length_append] at hz1 hz2 ⊢; omega) (by simp only [List.length_cons, List.length_nil, List.length_append] at hz1 hz2 ⊢; omega)⟩
  exact Or.inr (Or.inr (Or.inr (Or.inr (Or.inr (Or.inr (Or.inr (Or.inr (Or.inl (⟨g, k, s, h1, h2, h3, h4, rfl, rfl, rfl⟩)))))))))
theorem T_cp {nr : Nat} {k : Nat} (h1 : 1 ≤ k) (h2 : k ≤ 4) : qs_T nr [(1400 + k, 0)] [k, k] [1] := by
  refine ⟨qs_nj_1 (by omega), fun s hm hz1 hz2 => qs_ty_1 ?_ (by omega) (by omega) (by simp only [List.length_cons, List.length_nil, List.length_append] at hz1 hz2 ⊢; omega) (by simp only [List.length_cons, List.length_nil, List.length_append] at hz1 hz2 ⊢; omega)⟩
  exact Or.inr (Or.inr (Or.inr (Or.inr (Or.inr (Or.inr (Or.inr (Or.inr (Or.inr (Or.inr (Or.inr (Or.inl (⟨k, s, h1, h2, rfl, rfl, rfl⟩))))))))))))
theorem T_cp0 {nr : Nat} : qs_T nr [(1401, 0)] [0, 0] [1] := by
  refine ⟨qs_nj_1 (by omega), fun s hm hz1 hz2 => qs_ty_1 ?_ (by omega) (by omega) (by simp only [List.length_cons, List.length_nil, List.length_append] at hz1 hz2 ⊢; omega) (by simp only [List.length_cons, List.length_nil, List.length_append] at hz1 hz2 ⊢; omega)⟩
  exact Or.inr (Or.inr (Or.inr (Or.inr (Or.inr (Or.inr (Or.inr (Or.inr (Or.inr (Or.inr (Or.inr (Or.inr (Or.inl (⟨s, rfl, rfl, rfl⟩)))))))))))))
theorem T_re {nr : Nat} {j : Nat} (h1 : j < 6) : qs_T nr [(1500 + j, 0)] [1] [0] := by
  refine ⟨qs_nj_1 (by omega), fun s hm hz1 hz2 => qs_ty_1 ?_ (by omega) (by omega) (by simp only [List.length_cons, List.length_nil, List.length_append] at hz1 hz2 ⊢; omega) (by simp only [List.length_cons, List.length_nil, List.length_append] at hz1 hz2 ⊢; omega)⟩
  exact Or.inr (Or.inr (Or.inr (Or.inr (Or.inr (Or.inr (Or.inr (Or.inr (Or.inr (Or.inr (Or.inr (Or.inr (Or.inr (Or.inl (⟨j, s, h1, rfl, rfl, rfl⟩))))))))))))))
theorem T_ca {nr : Nat} {k : Nat} (h1 : 1 ≤ k) (h2 : k ≤ 3) : qs_T nr [(1650 + k, 0)] [1] [1] := by
  refine ⟨qs_nj_1 (by omega), fun s hm hz1 hz2 => qs_ty_1 ?_ (by omega) (by omega) (by simp only [List.length_cons, List.length_nil, List.length_append] at hz1 hz2 ⊢; omega) (by simp only [List.length_cons, List.length_nil, List.length_append] at hz1 hz2 ⊢; omega)⟩
  exact Or.inr (Or.inr (Or.inr (Or.inr (Or.inr (Or.inr (Or.inr (Or.inr (Or.inr (Or.inr (Or.inr (Or.inr (Or.inr (Or.inr (Or.inr (Or.inl (⟨k, s, h1, h2, rfl, rfl, rfl⟩))))))))))))))))
theorem T_ab {nr : Nat} {k : Nat} (h1 : 1 ≤ k) (h2 : k ≤ 4) : qs_T nr [(1700 + k, 0)] [k] [k] := by
  refine ⟨qs_nj_1 (by omega), fun s hm hz1 hz2 => qs_ty_1 ?_ (by omega) (by omega) (by simp only [List.length_cons, List.length_nil, List.length_append] at hz1 hz2 ⊢; omega) (by simp only [List.length_cons, List.length_nil, List.length_append] at hz1 hz2 ⊢; omega)⟩
  exact Or.inr (Or.inr (Or.inr (Or.inr (Or.inr (Or.inr (Or.inr (Or.inr (Or.inr (Or.inr (Or.inr (Or.inr (Or.inr (Or.inr (Or.inr (Or.inr (Or.inl (⟨k, s, h1, h2, rfl, rfl, rfl⟩)))))))))))))))))
theorem T_rd {nr : Nat} {j : Nat} (h1 : 1 ≤ j) (h2 : j ≤ 3) : qs_T nr [(1704 + 10 * j, 0)] [4] [4] := by
  refine ⟨qs_nj_1 (by omega), fun s hm hz1 hz2 => qs_ty_1 ?_ (by omega) (by omega) (by simp only [List.length_cons, List.length_nil, List.length_append] at hz1 hz2 ⊢; omega) (by simp only [List.length_cons, List.length_nil, List.length_append] at hz1 hz2 ⊢; omega)⟩
  exact Or.inr (Or.inr (Or.inr (Or.inr (Or.inr (Or.inr (Or.inr (Or.inr (Or.inr (Or.inr (Or.inr (Or.inr (Or.inr (Or.inr (Or.inr (Or.inr (Or.inr (Or.inl (⟨j, s, h1, h2, rfl, rfl, rfl⟩))))))))))))))))))
theorem T_sn {nr : Nat} {k : Nat} (h1 : 3 ≤ k) (h2 : k ≤ 4) : qs_T nr [(1740 + k, 0)] [k] [k] := by
  refine ⟨qs_nj_1 (by omega), fun s hm hz1 hz2 => qs_ty_1 ?_ (by omega) (by omega) (by simp only [List.length_cons, List.length_nil, List.length_append] at hz1 hz2 ⊢; omega) (by simp only [List.length_cons, List.length_nil, List.length_append] at hz1 hz2 ⊢; omega)⟩
  exact Or.inr (Or.inr (Or.inr (Or.inr (Or.inr (Or.inr (Or.inr (Or.inr (Or.inr (Or.inr (Or.inr (Or.inr (Or.inr (Or.inr (Or.inr (Or.inr (Or.inr (Or.inr (Or.inl (⟨k, s, h1, h2, rfl, rfl, rfl⟩)))))))))))))))))))
theorem T_mm {nr : Nat} {j k : Nat} (h1 : 5 ≤ j) (h2 : j ≤ 6) (h3 : 1 ≤ k) (h4 : k ≤ 4) : qs_T nr [(1700 + 10 * j + k, 0)] [k, k] [k] := by
  refine ⟨qs_nj_1 (by omega), fun s hm hz1 hz2 => qs_ty_1 ?_ (by omega) (by omega) (by simp only [List.length_cons, List.length_nil, List.length_append] at hz1 hz2 ⊢; omega) (by simp only [List.length_cons, List.length_nil, List.length_append] at hz1 hz2 ⊢; omega)⟩
  exact Or.inr (Or.inr (Or.inr (Or.inr (Or.inr (Or.inr (Or.inr (Or.inr (Or.inr (Or.inr (Or.inr (Or.inr (Or.inr (Or.inr (Or.inr (Or.inr (Or.inr (Or.inr (Or.inr (Or.inl (⟨j, k, s, h1, h2, h3, h4, rfl, rfl, rfl⟩))))))))))))))))))))
theorem T_num {nr : Nat} {n : Nat} (h : n < 2147483648) : qs_T nr [(1, n)] [] [1] := by
  refine ⟨qs_nj_1 (by omega), fun s hm hz1 hz2 => qs_ty_1 ?_ (by omega) (by omega) (by simp only [List.length_cons, List.length_nil, List.length_append] at hz1 hz2 ⊢; omega) (by simp only [List.length_cons, List.length_nil, List.length_append] at hz1 hz2 ⊢; omega)⟩
  exact Or.inl (⟨rfl, Or.inl rfl⟩)
theorem T_yes {nr : Nat} {n : Nat} (h : n ≤ 1) : qs_T nr [(1, n)] [] [0] := by
  refine ⟨qs_nj_1 (by omega), fun s hm hz1 hz2 => qs_ty_1 ?_ (by omega) (by omega) (by simp only [List.length_cons, List.length_nil, List.length_append] at hz1 hz2 ⊢; omega) (by simp only [List.length_cons, List.length_nil, List.length_append] at hz1 hz2 ⊢; omega)⟩
  exact Or.inl (⟨rfl, Or.inr ⟨rfl, by rcases (show n = 0 ∨ n = 1 by omega) with z | z <;> (rw [z]; decide)⟩⟩)
theorem T_real {nr : Nat} {i : Nat} (h : i < nr) (hn : nr < 2147483648) : qs_T nr [(2, i)] [] [4] := by
  refine ⟨qs_nj_1 (by omega), fun s hm hz1 hz2 => qs_ty_1 ?_ (by omega) (by omega) (by simp only [List.length_cons, List.length_nil, List.length_append] at hz1 hz2 ⊢; omega) (by simp only [List.length_cons, List.length_nil, List.length_append] at hz1 hz2 ⊢; omega)⟩
  exact Or.inr (Or.inl (⟨rfl, rfl, qi_inbN h (by omega)⟩))
theorem T_obj {nr : Nat} : qs_T nr [(3, 0)] [] [1] := by
  refine ⟨qs_nj_1 (by omega), fun s hm hz1 hz2 => qs_ty_1 ?_ (by omega) (by omega) (by simp only [List.length_cons, List.length_nil, List.length_append] at hz1 hz2 ⊢; omega) (by simp only [List.length_cons, List.length_nil, List.length_append] at hz1 hz2 ⊢; omega)⟩
  exact Or.inr (Or.inr (Or.inl (⟨rfl, rfl⟩)))
theorem T_nil {nr k : Nat} : qs_T nr [] [k] [k] := ⟨qs_nj_nil, fun s hm h1 h2 => qs_ty_nil (by simp only [List.length_cons, List.length_nil, List.length_append] at h1 ⊢; omega)⟩
theorem T_not {nr : Nat} : qs_T nr [(1810, 0)] [0] [0] := by
  refine ⟨qs_nj_1 (by omega), fun s hm h1 h2 => ⟨fun _ => 0 :: s, rfl, rfl, fun i hi => by simp only [List.length_cons, List.length_nil] at h1 ⊢; omega, fun i q hq => ?_⟩⟩
  have : i = 0 := by have : i < 1 := qs_ltl hq; omega
  subst this
  cases hq
  exact Or.inr (Or.inl ⟨rfl, rfl, s, rfl, rfl⟩)
theorem T_app {nr : Nat} {l m : List (Nat × Nat)} {f g h : List Nat} (a : qs_T nr l f g) (c : qs_T nr m g h) (hg : g.length ≤ f.length ∨ g.length ≤ h.length) : qs_T nr (l ++ m) f h :=
  ⟨qs_nj_app a.1 c.1, fun s hm h1 h2 => qs_ty_an (a.2 s hm h1 (by omega)) (c.2 s hm (by omega) h2) c.1⟩
theorem D_lf {nr k : Nat} {l : List (Nat × Nat)} (hk : k ≤ 4) (hl : 0 < l.length ∧ l.length ≤ 6) (h : qs_T nr l [] [k]) : qs_D nr (d_lf k l) :=
  ⟨hk, Nat.le_refl _, ⟨Nat.le_refl _, Nat.le_refl _⟩, hl.1, hl.2, fun s => h.2 s _ (Nat.le_add_right _ _) (Nat.le_refl _)⟩
theorem qw_kd_le {l : Nat} (h : l < 8) : qw_kd l ≤ 4 := by
  unfold qw_kd
  split
  · omega
  · split <;> omega
section
variable {nr : Nat} {x y : qDen}
theorem D_fn {m : Nat} (hm : 22 ≤ m ∧ m ≤ 35) (h27 : m ≠ 27 ∧ m ≠ 28) (hx : qs_D nr x) (h0 : x.1 ≠ 0) : qs_D nr (qs_fn m x) := by
  have hx4 := hx.1
  unfold qs_fn
  by_cases c1 : m = 22
  · rw [if_pos c1]; exact D_un hx hx4 (Or.inr rfl) (T_ab (by omega) hx4) (Nat.le_of_ble_eq_true rfl)
  rw [if_neg c1]
  by_cases c2 : m = 23 ∨ m = 24 ∨ m = 25
  · rw [if_pos c2]; exact D_un hx (by decide) (Or.inl ⟨by omega, by decide, by decide⟩) (T_rd (by omega) (by omega)) (Nat.le_of_ble_eq_true rfl)
  rw [if_neg c2]
  by_cases c3 : m = 26
  · rw [if_pos c3]
    by_cases c4 : x.1 = 3
    · rw [if_pos c4]; exact D_un hx (by decide) (Or.inr c4) (T_sn (by decide) (by decide)) (Nat.le_of_ble_eq_true rfl)
    · rw [if_neg c4]; exact D_un hx (by decide) (Or.inl ⟨by omega, by decide, by decide⟩) (T_sn (by decide) (by decide)) (Nat.le_of_ble_eq_true rfl)
  rw [if_neg c3]
  by_cases c4 : m = 29 ∨ m = 30 ∨ m = 31
  · rw [if_pos c4, show 1651 + (m - 29) = 1650 + (m - 28) by omega]; exact D_un hx (by decide) (Or.inl ⟨by omega, by decide, by decide⟩) (T_ca (by omega) (by omega)) (Nat.le_of_ble_eq_true rfl)
  rw [if_neg c4]
  exact D_un hx (by omega) (Or.inl ⟨by omega, by omega, by omega⟩) T_nil (Nat.le_of_ble_eq_true rfl)
theorem qs_ko_1 {k : Nat} (h : k ≠ 0) : qs_ko k = k := by unfold qs_ko; omega
theorem D_fn2 {m : Nat} (hm : m = 27 ∨ m = 28) (hx : qs_D nr x) (hy : qs_D nr y) (h0 : x.1 ≠ 0) (h1 : y.1 ≠ 0) : qs_D nr (qs_fn2 m x y) := by
  have hx4 := hx.1
  have hy4 := hy.1
  unfold qs_fn2
  rw [show 1750 + 10 * (m - 27) + max x.1 y.1 = 1700 + 10 * (m - 22) + max x.1 y.1 by omega]
  exact D_bi hx hy (by omega) (Or.inl ⟨by omega, by omega, by omega⟩) (Or.inl ⟨by omega, by omega, by omega⟩) (T_mm (by omega) (by omega) (by omega) (by omega)) (Nat.le_of_ble_eq_true rfl)
theorem qs_beq {a c : Nat} : Nat.beq a c = true ↔ a = c := ⟨Nat.eq_of_beq_eq_true, fun h => by rw [h]; exact Nat.beq_refl c⟩
theorem qs_wh_of {k : Nat} (h : qs_wh k = true) : k = 1 ∨ k = 2 := by
  unfold qs_wh at h
  rcases Bool.or_eq_true_iff.mp h with z | z
  · exact Or.inl (qs_beq.mp z)
  · exact Or.inr (qs_beq.mp z)
theorem qs_sv_c (m : Nat) : m = 20 ∧ qs_sv m = 1 ∨ m = 21 ∧ qs_sv m = 2 ∨ (36 ≤ m ∧ m ≤ 41) ∧ qs_sv m = 4 ∨ (42 ≤ m ∧ m ≤ 44) ∧ qs_sv m = 5 ∨ (45 ≤ m ∧ m ≤ 47) ∧ qs_sv m = 6 ∨ (m = 48 ∨ m = 49) ∧ qs_sv m = 7 ∨ (50 ≤ m ∧ m ≤ 52) ∧ qs_sv m = 8 ∨ (m ≠ 20 ∧ m ≠ 21 ∧ (m < 36 ∨ 52 < m)) ∧ qs_sv m = 0 := by
  unfold qs_sv
  repeat' split
  all_goals omega
theorem D_join {m : Nat} (hm : 1 ≤ qs_sv m) (hx : qs_D nr x) (hy : qs_D nr y) (hf : qs_fits m x.1 y.1 = true) : qs_D nr (qs_join m x y) := by
  have hx4 := hx.1
  have hy4 := hy.1
  unfold qs_fits at hf
  unfold qs_join
  by_cases c1 : qs_sv m ≤ 2
  · rw [if_pos c1] at hf ⊢
    obtain ⟨z1, z2⟩ := Bool.and_eq_true_iff.mp hf
    refine D_lg ?_ hx hy (qs_beq.mp z1) (qs_beq.mp z2)
    split <;> decide
  rw [if_neg c1] at hf ⊢
  have hmm : 36 ≤ m ∧ m ≤ 52 := by
    unfold qs_sv at c1
    repeat' split at c1
    all_goals omega
  by_cases c5 : qs_sv m = 5
  · rw [if_pos c5] at hf
    rw [if_neg (by omega), if_neg (by omega)]
    have hr : 42 ≤ m ∧ m ≤ 44 := by
      unfold qs_sv at c5
      repeat' split at c5
      all_goals omega
    rw [show qs_op m = 100 * (m - 36) by unfold qs_op; rw [if_pos hr]; omega]
    rcases Bool.or_eq_true_iff.mp hf with z | z
    · obtain ⟨z1, z2⟩ := Bool.and_eq_true_iff.mp z
      have z1 := qs_beq.mp z1
      have z2 := qs_beq.mp z2
      rw [z1, z2]
      exact D_bi hx hy (by decide) (Or.inr z1) (Or.inr z2) (T_mx0 (by omega) (by omega)) (Nat.le_of_ble_eq_true rfl)
    · obtain ⟨z1, z2⟩ := Bool.and_eq_true_iff.mp z
      have z1 := qs_wh_of z1
      have z2 := qs_wh_of z2
      rw [qs_ko_1 (by omega)]
      exact D_bi hx hy (by omega) (Or.inl ⟨by omega, by omega, by omega⟩) (Or.inl ⟨by omega, by omega, by omega⟩) (T_mx (by omega) (by omega) (by omega) (by omega)) (Nat.le_of_ble_eq_true rfl)
  rw [if_neg c5] at hf
  by_cases c6 : qs_sv m = 6
  · rw [if_pos c6] at hf ⊢
    have hr : 45 ≤ m ∧ m ≤ 47 := by
      unfold qs_sv at c6
      repeat' split at c6
      all_goals omega
    rw [show qs_op m = 100 * (m - 36) by unfold qs_op; rw [if_neg (by omega), if_pos hr]; omega]
    obtain ⟨z1, z2⟩ := Bool.and_eq_true_iff.mp hf
    have z1 := qs_wh_of z1
    have z2 := qs_wh_of z2
    exact D_bi hx hy (by omega) (Or.inr rfl) (Or.inl ⟨by omega, by omega, by omega⟩) (T_sf (by omega) (by omega) (by omega) (by omega)) (Nat.le_of_ble_eq_true rfl)
  rw [if_neg c6] at hf ⊢
  by_cases c4 : qs_sv m = 4
  · rw [if_pos c4]
    have hr : 36 ≤ m ∧ m ≤ 41 := by
      unfold qs_sv at c4
      repeat' split at c4
      all_goals omega
    rcases Bool.or_eq_true_iff.mp hf with z | z
    · obtain ⟨z1, z2⟩ := Bool.and_eq_true_iff.mp z
      have n1 : x.1 ≠ 0 := fun e => by rw [e] at z1; cases z1
      have n2 : y.1 ≠ 0 := fun e => by rw [e] at z2; cases z2
      rw [qs_ko_1 (by omega)]
      exact D_bi hx hy (by omega) (Or.inl ⟨by omega, by omega, by omega⟩) (Or.inl ⟨by omega, by omega, by omega⟩) (T_app (T_cp (by omega) (by omega)) (T_re (j := m - 36) (by omega)) (Or.inl (Nat.le_of_ble_eq_true rfl))) (Nat.le_of_ble_eq_true rfl)
    · obtain ⟨z1, z2⟩ := Bool.and_eq_true_iff.mp (Bool.and_eq_true_iff.mp z).1
      have z1 := qs_beq.mp z1
      have z2 := qs_beq.mp z2
      rw [z1, z2]
      exact D_bi hx hy (by decide) (Or.inr z1) (Or.inr z2) (T_app T_cp0 (T_re (j := m - 36) (by omega)) (Or.inl (Nat.le_of_ble_eq_true rfl))) (Nat.le_of_ble_eq_true rfl)
  rw [if_neg c4]
  have hr : 48 ≤ m ∧ m ≤ 52 := by
    have := qs_sv_c m
    omega
  have hn : x.1 ≠ 0 ∧ y.1 ≠ 0 := by
    rcases Bool.or_eq_true_iff.mp hf with z | z
    · obtain ⟨z1, z2⟩ := Bool.and_eq_true_iff.mp z
      exact ⟨fun e => (by rw [e] at z1; cases z1), fun e => (by rw [e] at z2; cases z2)⟩
    · have := (Bool.or_eq_true_iff.mp (Bool.and_eq_true_iff.mp z).2)
      rcases this with y | y
      · have := qs_beq.mp y; omega
      · have := qs_beq.mp y; omega
  have ho : qs_op m = 100 * (m - 47) := by
    unfold qs_op
    rw [if_neg (by omega), if_neg (by omega)]
    repeat' split
    all_goals omega
  rw [ho, qs_ko_1 (by omega)]
  exact D_bi hx hy (by omega) (Or.inl ⟨by omega, by omega, by omega⟩) (Or.inl ⟨by omega, by omega, by omega⟩) (T_ar (by omega) (by omega) (by omega) (by omega)) (Nat.le_of_ble_eq_true rfl)
end
