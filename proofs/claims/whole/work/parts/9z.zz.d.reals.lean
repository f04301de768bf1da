/-! fewer than a hundred reals, all of them numbers -/
def qs_J3 (b : Nat → Nat) (len : Nat) (st : qP) : Prop := 4 * st.2.length + 3 ≤ st.1 + 1 ∧ (qt_fi (b st.1) = true → 4 * st.2.length + 3 ≤ st.1) ∧ st.1 ≤ len ∧ qt_m b st.1 ≠ 63 ∧ ∀ v ∈ st.2, qc_n64 v = true
theorem qt_wm_few : ∀ v, v < 1024 → qt_wm v ≠ 5 ∧ qt_wm v ≠ 9 ∧ qt_wm v ≠ 15 := by decide +kernel
theorem qt_wv_l32 {b : Nat → Nat} {s : Nat} : ∀ n, (∀ j, j < n → qt_le (b (s + j)) = true) → qt_wv b s n < 32 ^ n
  | 0, _ => Nat.lt_succ_self 0
  | n + 1, h => by
    have ih := qt_wv_l32 n (fun j hj => h j (by omega))
    have hl := Bool.and_eq_true_iff.mp (h n (by omega))
    have h2 := Nat.ble_eq.mp hl.2
    show 32 * qt_wv b s n + (b (s + n) - 96) < 32 ^ (n + 1)
    rw [Nat.pow_succ]
    omega
section
variable {b ln : Nat → Nat} {len : Nat}
theorem J3_adv (hb : qt_B b len) (st st' : qP) (h : qs_J3 b len st) (ha : qs_adv b st = .inr st') : qs_J3 b len st' := by
  obtain ⟨e1, e2⟩ := qs_adv_of ha
  obtain ⟨h1, h2, h3, h4, h5⟩ := h
  obtain ⟨a1, a2, a3, a4⟩ := qt_pos hb h3
  subst e1
  obtain ⟨b1, b2⟩ := a3 h4
  by_cases z : qt_m b st.1 = 0
  · have hz := qt_m0 z
    have ht : qt_to b st.1 = qt_from b st.1 := by unfold qt_to; rw [if_pos hz]
    refine ⟨by show 4 * st.2.length + 3 ≤ qt_to b st.1 + 1; omega, fun u => ?_, b2, e2, h5⟩
    exfalso
    have u : qt_fi (b (qt_to b st.1)) = true := u
    rw [ht, hz] at u
    cases u
  · have := a4 h4 z
    exact ⟨by show 4 * st.2.length + 3 ≤ qt_to b st.1 + 1; omega, fun _ => by show 4 * st.2.length + 3 ≤ qt_to b st.1; omega, b2, e2, h5⟩
theorem qt_r_n {p : Nat} (h : qt_m b p = 2) : qc_n64 (qt_r b p) = true := by
  have hk : qt_f2 b (qt_from b p) - (qt_f1 b (qt_from b p) + 1) ≤ 9 := by
    unfold qt_m at h
    by_cases c1 : b (qt_from b p) = 256
    · rw [if_pos c1] at h; cases h
    rw [if_neg c1] at h
    by_cases c2 : qt_le (b (qt_from b p)) = true
    · rw [if_pos c2] at h
      have := (qt_wm_0 (qt_w b (qt_from b p))).2.2.1
      omega
    rw [if_neg c2] at h
    by_cases c3 : qt_fi (b (qt_from b p)) = true
    · rw [if_pos c3] at h
      split at h
      · split at h
        · omega
        · cases h
      · split at h <;> cases h
    rw [if_neg c3] at h
    by_cases c4 : b (qt_from b p) = 36
    · rw [if_pos c4] at h
      split at h <;> cases h
    rw [if_neg c4] at h
    have := (qt_sg_m (b (qt_from b p)) (b (qt_from b p + 1)) (b (qt_from b p + 2))).2
    omega
  have h9 : 10 ^ (qt_f2 b (qt_from b p) - (qt_f1 b (qt_from b p) + 1)) ≤ 10 ^ 9 := Nat.pow_le_pow_right (by decide) hk
  unfold qt_r
  exact qf_divL_N _ _ (Nat.pow_pos (by decide)) (Nat.lt_of_le_of_lt h9 (by decide))
theorem J3_real (hb : qt_B b len) (st st' : qP) (h : qs_J3 b len st) (hm : qt_m b st.1 = 2) (ha : qs_adv b (st.1, st.2 ++ [qt_r b st.1]) = .inr st') : qs_J3 b len st' := by
  obtain ⟨e1, e2⟩ := qs_adv_of ha
  obtain ⟨h1, h2, h3, h4, h5⟩ := h
  obtain ⟨a1, a2, a3, a4⟩ := qt_pos hb h3
  obtain ⟨c1, c2, c3, -⟩ := qt_real hb h3 hm
  have key : 4 * st.2.length + 3 ≤ qt_from b st.1 := by
    by_cases e : qt_from b st.1 = st.1
    · rw [e] at c1 ⊢
      exact h2 c1
    · omega
  subst e1
  refine ⟨?_, fun u => ?_, (a3 h4).2, e2, fun v hv => ?_⟩
  · show 4 * (st.2 ++ [qt_r b st.1]).length + 3 ≤ qt_to b st.1 + 1
    rw [List.length_append]
    show 4 * (st.2.length + 1) + 3 ≤ _
    omega
  · have u : qt_fi (b (qt_to b st.1)) = true := u
    rw [c3] at u
    cases u
  · have hv : v ∈ st.2 ++ [qt_r b st.1] := hv
    rcases List.mem_append.mp hv with z | z
    · exact h5 v z
    · rw [List.mem_singleton.mp z]
      exact qt_r_n hm
theorem qt_to_3 (hb : qt_B b len) (h : qt_m b 0 = 5 ∨ qt_m b 0 = 9 ∨ qt_m b 0 = 15) : 3 ≤ qt_to b 0 := by
  have hs := qt_from_max hb (Nat.zero_le len)
  unfold qt_m at h
  unfold qt_to
  by_cases c1 : b (qt_from b 0) = 256
  · rw [if_pos c1] at h; omega
  rw [if_neg c1] at h ⊢
  by_cases c2 : qt_le (b (qt_from b 0)) = true
  · rw [if_pos c2] at h ⊢
    obtain ⟨w1, w2, w3, w4⟩ := qt_word hb hs c2
    by_cases z : qt_le_end b (qt_from b 0) - qt_from b 0 ≤ 2
    · exfalso
      have hv : qt_w b (qt_from b 0) < 1024 := by
        unfold qt_w
        rw [if_pos (by omega)]
        have h1 := qt_wv_l32 (qt_le_end b (qt_from b 0) - qt_from b 0) w1
        have h2 : 32 ^ (qt_le_end b (qt_from b 0) - qt_from b 0) ≤ 32 ^ 2 := Nat.pow_le_pow_right (by decide) z
        have h3 : (32 : Nat) ^ 2 = 1024 := by decide
        omega
      obtain ⟨d1, d2, d3⟩ := qt_wm_few _ hv
      omega
    · omega
  rw [if_neg c2] at h
  by_cases c3 : qt_fi (b (qt_from b 0)) = true
  · rw [if_pos c3] at h
    exfalso
    have : ∀ x : Nat, (if qt_isR b (qt_from b 0) = true then (if (qt_f1 b (qt_from b 0) - qt_from b 0) + (qt_f2 b (qt_from b 0) - (qt_f1 b (qt_from b 0) + 1)) ≤ 9 then 2 else 63) else if qt_nv b (qt_from b 0) < 2147483648 then 1 else 63) = x → x = 1 ∨ x = 2 ∨ x = 63 := fun x hx => by
      rw [← hx]
      repeat' split
      all_goals omega
    rcases h with h | h | h <;> (have := this _ h; omega)
  rw [if_neg c3] at h
  by_cases c4 : b (qt_from b 0) = 36
  · rw [if_pos c4] at h
    exfalso
    have : ∀ x : Nat, (if qt_fi (b (qt_from b 0 + 1)) = true then 3 else 63) = x → x = 3 ∨ x = 63 := fun x hx => by
      rw [← hx]
      split <;> omega
    rcases h with h | h | h <;> (have := this _ h; omega)
  rw [if_neg c4] at h
  have := (qt_sg_m (b (qt_from b 0)) (b (qt_from b 0 + 1)) (b (qt_from b 0 + 2))).2
  omega
theorem q_read_few (hb : qt_B b len) (hln : ∀ c, ln c ≤ 8) (h63 : qt_m b 0 ≠ 63) {r : Nat × qXS} (h : q_read b ln qN = .inr r) : r.2.2.2.length < 100 ∧ (∀ v ∈ r.2.2.2, qc_n64 v = true) ∧ q_nn r.2.1 := by
  unfold q_read at h
  rw [if_neg h63] at h
  split at h
  · cases h
  rename_i hso
  obtain ⟨so1, so2, so3, so4⟩ := q_so_5 (m := qt_m b 0)
  have hm : qt_m b 0 = 5 ∨ qt_m b 0 = 9 ∨ qt_m b 0 = 15 := by omega
  obtain ⟨st, h1, h⟩ := qs_b_of h
  obtain ⟨s, h2, h⟩ := qs_b_of h
  unfold q_end at h
  split at h
  · cases h
    have hG : qs_G b len (0, []) := ⟨Nat.zero_le _, h63, show 4 * 0 ≤ 0 + 1 by omega, fun _ => show 4 * 0 ≤ 0 by omega⟩
    have h3 := qt_to_3 hb hm
    obtain ⟨g1, g2, g3⟩ := qs_G_adv hb hG (by show qt_m b 0 ≠ 0; omega) h1
    obtain ⟨e1, e2⟩ := qs_adv_of h1
    have hP : qs_J3 b len st := by
      have e3 : st.1 = qt_to b 0 := by rw [e1]
      refine ⟨?_, fun _ => ?_, g1.1, e2, fun v hv => ?_⟩
      · rw [g3, e3]; show 4 * 0 + 3 ≤ _; omega
      · rw [g3, e3]; show 4 * 0 + 3 ≤ _; omega
      · rw [g3] at hv; cases hv
    obtain ⟨k1, k2⟩ := q_body_k hln (J3_adv hb) (J3_real hb) h2 hP
    have := hb.1
    refine ⟨?_, k1.2.2.2.2, k2⟩
    have := k1.1
    have := k1.2.2.1
    show s.2.2.length < 100
    omega
  · cases h
end
