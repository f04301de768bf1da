/-! what is known of sums that are read -/
theorem qs_b_of {α β : Type} {r : qR α} {f : α → qR β} {a : β} (h : qs_b r f = .inr a) : ∃ x, r = .inr x ∧ f x = .inr a := by
  cases r with
  | inl e => cases h
  | inr x => exact ⟨x, rfl, h⟩
theorem qs_fit_of {α : Type} {c : Bool} {j : Nat} {r : qR α} {a : α} (h : qs_fit c j r = .inr a) : c = true ∧ r = .inr a := by
  unfold qs_fit at h
  split at h
  · exact ⟨by assumption, h⟩
  · cases h
theorem qs_op1_of {b : Nat → Nat} {o : Nat} {st st' : qP} (h : qs_op1 b o st = .inr st') : st' = st ∧ o < 12 := by
  unfold qs_op1 at h
  split at h
  · cases h
  · cases h; exact ⟨rfl, by omega⟩
theorem qs_bop {b : Nat → Nat} {o : Nat} {st : qP} {β : Type} {f : qP → qR β} {a : β} (h : qs_b (qs_op1 b o st) f = .inr a) : o < 12 ∧ f st = .inr a := by
  obtain ⟨st', e1, e2⟩ := qs_b_of h
  obtain ⟨e3, e4⟩ := qs_op1_of e1
  rw [e3] at e2
  exact ⟨e4, e2⟩
theorem qs_adv_of {b : Nat → Nat} {st st' : qP} (h : qs_adv b st = .inr st') : st' = (qt_to b st.1, st.2) ∧ qt_m b st'.1 ≠ 63 := by
  unfold qs_adv at h
  split at h
  · cases h
  · cases h; exact ⟨rfl, by assumption⟩
theorem qs_ex_of {b : Nat → Nat} {m : Nat} {st st' : qP} (h : qs_ex b m st = .inr st') : qt_m b st.1 = m ∧ qs_adv b st = .inr st' := by
  unfold qs_ex at h
  split at h
  · exact ⟨by assumption, h⟩
  · cases h
section
variable {b ln : Nat → Nat} {len : Nat}
/-- a state, and what is read there -/
def qs_G (b : Nat → Nat) (len : Nat) (st : qP) : Prop := st.1 ≤ len ∧ qt_m b st.1 ≠ 63 ∧ qs_J b st
theorem qs_G_adv (hB : qt_B b len) {st st' : qP} (hG : qs_G b len st) (h0 : qt_m b st.1 ≠ 0) (h : qs_adv b st = .inr st') : qs_G b len st' ∧ st.1 < st'.1 ∧ st'.2 = st.2 := by
  obtain ⟨h1, h2⟩ := qs_adv_of h
  obtain ⟨a1, a2, a3, a4⟩ := qt_pos hB hG.1
  subst h1
  have := a3 hG.2.1
  have := a4 hG.2.1 h0
  exact ⟨⟨(a3 hG.2.1).2, h2, qs_J_adv hB hG.1 hG.2.2 h0 hG.2.1⟩, by show st.1 < qt_to b st.1; omega, rfl⟩
theorem qs_G_nr (hB : qt_B b len) {st : qP} (hG : qs_G b len st) : st.2.length ≤ 100 := by
  have h1 := hG.2.2.1
  have h2 := hG.1
  have h3 := hB.1
  omega
/-- a column's number -/
theorem qt_col (hB : qt_B b len) {p : Nat} (h : qt_m b p = 3) : qt_n b p < 10 ∧ b (qt_from b p) = 36 := by
  unfold qt_m at h
  unfold qt_n
  generalize qt_from b p = s at h
  by_cases c1 : b s = 256
  · rw [if_pos c1] at h; omega
  rw [if_neg c1] at h
  by_cases c2 : qt_le (b s) = true
  · rw [if_pos c2] at h
    have := (qt_wm_0 (qt_w b s)).2.2.1
    omega
  rw [if_neg c2] at h
  by_cases c3 : qt_fi (b s) = true
  · rw [if_pos c3] at h
    repeat' split at h
    all_goals omega
  rw [if_neg c3] at h
  by_cases c4 : b s = 36
  · rw [if_pos c4] at h ⊢
    by_cases c5 : qt_fi (b (s + 1)) = true
    · have := Bool.and_eq_true_iff.mp c5
      have h1 := Nat.ble_eq.mp this.2
      exact ⟨by omega, c4⟩
    · rw [if_neg c5] at h; omega
  · rw [if_neg c4] at h
    have := (qt_sg_m (b s) (b (s + 1)) (b (s + 2))).2
    omega
theorem qt_num (hB : qt_B b len) {p : Nat} (h : qt_m b p = 1) : qt_n b p < 2147483648 ∧ qt_n b p = qt_nv b (qt_from b p) ∧ qt_fi (b (qt_from b p)) = true ∧ qt_isR b (qt_from b p) = false := by
  unfold qt_m at h
  unfold qt_n
  generalize qt_from b p = s at h
  by_cases c1 : b s = 256
  · rw [if_pos c1] at h; omega
  rw [if_neg c1] at h
  by_cases c2 : qt_le (b s) = true
  · rw [if_pos c2] at h
    have := (qt_wm_0 (qt_w b s)).2.2.1
    omega
  rw [if_neg c2] at h
  by_cases c3 : qt_fi (b s) = true
  · rw [if_pos c3] at h
    have n36 : b s ≠ 36 := fun z => by rw [z] at c3; cases c3
    rw [if_neg n36]
    by_cases c4 : qt_isR b s = true
    · rw [if_pos c4] at h
      split at h <;> omega
    · rw [if_neg c4] at h
      split at h
      · exact ⟨by assumption, rfl, c3, Bool.eq_false_iff.mpr c4⟩
      · omega
  rw [if_neg c3] at h
  split at h
  · split at h <;> omega
  · have := (qt_sg_m (b s) (b (s + 1)) (b (s + 2))).2
    omega
/-- what comes of reading: a good state, a good sum, some way on -/
def qs_Q (b : Nat → Nat) (len : Nat) (z : Nat) (st : qP) (q : qDen × qP) : Prop := qs_G b len q.2 ∧ qs_D q.2.2.length q.1 ∧ st.2.length ≤ q.2.2.length ∧ st.1 + q.1.2.2.1 ≤ q.2.1 + z
def qs_H (b : Nat → Nat) (len : Nat) (rec : qRec) : Prop := ∀ tag x y o d st q, rec tag x y o d st = .inr q → qs_G b len st → 
  (tag ≠ 1 → tag ≠ 3 → (tag = 2 → 1 ≤ x) ∧ (tag = 6 → qt_m b st.1 = 3) → qs_Q b len 0 st q) ∧ (tag = 1 → qt_m b st.1 = 59 → qs_D st.2.length d → qs_Q b len d.2.2.1 st q) ∧ (tag = 3 → 1 ≤ x → qs_D st.2.length d → qs_Q b len d.2.2.1 st q)
theorem qs_Q_up (hB : qt_B b len) {d : qDen} {n : Nat} {st : qP} (hG : qs_G b len st) (hd : qs_D n d) (h : n ≤ st.2.length) : qs_D st.2.length d := qs_D_mn hd h (by have := qs_G_nr hB hG; omega)
theorem qs_good (hB : qt_B b len) (hln : ∀ c, c < 10 → ln c ≤ 8) : ∀ n, qs_H b len (qs_p b ln n)
  | 0 => fun tag x y o d st q h => by cases h
  | n + 1 => fun tag x y o d st q h hG => by
    have ih := qs_good hB hln n
    have hsum : ∀ {o st q}, qs_p b ln n 0 0 0 o (d_lf 0 []) st = .inr q → qs_G b len st → qs_Q b len 0 st q := fun {o st q} h hG => (ih 0 0 0 o _ st q h hG).1 (by decide) (by decide) (by omega)
    match tag, h with
    | 0, h =>
      refine ⟨fun _ _ hx => ?_, fun z => absurd z (by decide), fun z => absurd z (by decide)⟩
      obtain ⟨q1, e1, e2⟩ := qs_b_of (show qs_sum b (qs_p b ln n) o st = .inr q from h)
      have hq := (ih 2 1 0 o _ st q1 e1 hG).1 (by decide) (by decide) (by omega)
      split at e2
      · rename_i hm
        obtain ⟨a1, a2, a3, a4⟩ := hq
        obtain ⟨c1, c2, c3, c4⟩ := (ih 1 0 0 o q1.1 q1.2 q e2 a1).2.1 rfl hm a2
        exact ⟨c1, c2, by omega, by omega⟩
      · cases e2; exact hq
    | 1, h =>
      refine ⟨fun z => absurd rfl z, fun _ hm hD => ?_, fun z => absurd z (by decide)⟩
      have h : qs_choice b (qs_p b ln n) o d st = .inr q := h
      obtain ⟨-, h⟩ := qs_bop h
      obtain ⟨f1, h⟩ := qs_fit_of h
      obtain ⟨st1, e2, h⟩ := qs_b_of h
      obtain ⟨g1, g2, g3⟩ := qs_G_adv hB hG (by omega) e2
      obtain ⟨q1, e3, h⟩ := qs_b_of h
      obtain ⟨a1, a2, a3, a4⟩ := hsum e3 g1
      obtain ⟨st2, e4, h⟩ := qs_b_of h
      obtain ⟨x1, x2⟩ := qs_ex_of e4
      obtain ⟨k1, k2, k3⟩ := qs_G_adv hB a1 (by omega) x2
      obtain ⟨q2, e5, h⟩ := qs_b_of h
      obtain ⟨c1, c2, c3, c4⟩ := hsum e5 k1
      obtain ⟨f2, h⟩ := qs_fit_of h
      cases h
      have hz : q1.1.1 = 0 ↔ q2.1.1 = 0 := by
        rw [← qs_beq, ← qs_beq, eq_of_beq f2]
      rw [k3] at c3
      rw [g3] at a3
      refine ⟨c1, D_ch (qs_Q_up hB c1 hD (by show st.2.length ≤ q2.2.2.length; omega)) (qs_Q_up hB c1 a2 (by show q1.2.2.length ≤ q2.2.2.length; omega)) c2 (qs_beq.mp f1) rfl hz, (by show st.2.length ≤ q2.2.2.length; omega), ?_⟩
      show st.1 + (d.2.2.1 + q1.1.2.2.1 + q2.1.2.2.1 + 1) ≤ q2.2.1 + d.2.2.1
      omega
    | 2, h =>
      refine ⟨fun _ _ hx => ?_, fun z => absurd z (by decide), fun z => absurd z (by decide)⟩
      have h : qs_joined b (qs_p b ln n) x o st = .inr q := h
      have x1 : 1 ≤ x ∨ x = 0 := by omega
      unfold qs_joined at h
      by_cases c0 : x ≤ 3 ∧ qt_m b st.1 = 19
      · rw [if_pos c0] at h
        obtain ⟨-, h⟩ := qs_bop h
        obtain ⟨st1, e2, h⟩ := qs_b_of h
        obtain ⟨g1, g2, g3⟩ := qs_G_adv hB hG (by omega) e2
        obtain ⟨q1, e3, h⟩ := qs_b_of h
        obtain ⟨a1, a2, a3, a4⟩ := (ih 2 3 0 _ _ st1 q1 e3 g1).1 (by decide) (by decide) (by omega)
        obtain ⟨f1, h⟩ := qs_fit_of h
        have z := qs_beq.mp f1
        have hD : qs_D q1.2.2.length (d_un 0 q1.1.1 [(1810, 0)] q1.1) := by rw [z]; exact D_un a2 (by decide) (Or.inr z) T_not (by decide)
        have hx : 1 ≤ x := hx.1 rfl
        obtain ⟨c1, c2, c3, c4⟩ := (ih 3 x 2 o _ q1.2 q h a1).2.2 rfl hx hD
        rw [g3] at a3
        refine ⟨c1, c2, by omega, ?_⟩
        have : (d_un 0 q1.1.1 [(1810, 0)] q1.1).2.2.1 = q1.1.2.2.1 + 1 := rfl
        omega
      · rw [if_neg c0] at h
        obtain ⟨q1, e3, h⟩ := qs_b_of h
        obtain ⟨a1, a2, a3, a4⟩ := (ih 4 0 0 _ _ st q1 e3 hG).1 (by decide) (by decide) (by omega)
        have hx : 1 ≤ x := hx.1 rfl
        obtain ⟨c1, c2, c3, c4⟩ := (ih 3 x 8 o _ q1.2 q h a1).2.2 rfl hx a2
        exact ⟨c1, c2, by omega, by omega⟩
    | 3, h =>
      refine ⟨fun _ z => absurd rfl z, fun z => absurd z (by decide), fun _ hx hD => ?_⟩
      have h : qs_loop b (qs_p b ln n) x y o d st = .inr q := h
      unfold qs_loop at h
      by_cases c0 : x ≤ qs_sv (qt_m b st.1) ∧ qs_sv (qt_m b st.1) ≤ y
      · rw [if_pos c0] at h
        obtain ⟨st1, e2, h⟩ := qs_b_of h
        obtain ⟨g1, g2, g3⟩ := qs_G_adv hB hG (fun z => by rw [z] at c0; have := c0.1; exact absurd (show 1 ≤ qs_sv 0 by omega) (by decide)) e2
        obtain ⟨q1, e3, h⟩ := qs_b_of h
        obtain ⟨a1, a2, a3, a4⟩ := (ih 2 _ 0 _ _ st1 q1 e3 g1).1 (by decide) (by decide) (by omega)
        obtain ⟨f1, h⟩ := qs_fit_of h
        rw [g3] at a3
        have hJ := D_join (m := qt_m b st.1) (by omega) (qs_Q_up hB a1 hD (by omega)) a2 f1
        obtain ⟨c1, c2, c3, c4⟩ := (ih 3 x _ o _ q1.2 q h a1).2.2 rfl hx hJ
        refine ⟨c1, c2, by omega, ?_⟩
        have : (qs_join (qt_m b st.1) d q1.1).2.2.1 = d.2.2.1 + q1.1.2.2.1 + 1 := by
          unfold qs_join
          repeat' split
          all_goals rfl
        omega
      · rw [if_neg c0] at h
        cases h
        exact ⟨hG, hD, Nat.le_refl _, Nat.le_refl _⟩
    | 4, h =>
      refine ⟨fun _ _ hx => ?_, fun z => absurd z (by decide), fun z => absurd z (by decide)⟩
      have h : qs_signed b (qs_p b ln n) o st = .inr q := h
      unfold qs_signed at h
      by_cases c0 : qt_m b st.1 = 49 ∨ qt_m b st.1 = 53
      · rw [if_pos c0] at h
        obtain ⟨-, h⟩ := qs_bop h
        obtain ⟨st1, e2, h⟩ := qs_b_of h
        obtain ⟨g1, g2, g3⟩ := qs_G_adv hB hG (by omega) e2
        obtain ⟨q1, e3, h⟩ := qs_b_of h
        obtain ⟨a1, a2, a3, a4⟩ := (ih 4 0 0 _ _ st1 q1 e3 g1).1 (by decide) (by decide) (by omega)
        obtain ⟨f1, h⟩ := qs_fit_of h
        cases h
        rw [g3] at a3
        refine ⟨a1, ?_, by show st.2.length ≤ q1.2.2.length; omega, by show st.1 + (q1.1.2.2.1 + 1) ≤ q1.2.1 + 0; omega⟩
        by_cases c1 : qt_m b st.1 = 49
        · rw [if_pos c1] at f1 ⊢
          have n1 : q1.1.1 ≠ 0 := fun e => by rw [e] at f1; cases f1
          exact D_un a2 a2.1 (Or.inr rfl) (T_neg (by omega) a2.1) (Nat.le_of_ble_eq_true rfl)
        · rw [if_neg c1] at f1 ⊢
          have n1 := qs_wh_of f1
          exact D_un a2 a2.1 (Or.inr rfl) (T_turn (by omega) (by omega)) (Nat.le_of_ble_eq_true rfl)
      · rw [if_neg c0] at h
        exact (ih 5 0 0 _ _ st q h hG).1 (by decide) (by decide) (by omega)
    | 5, h =>
      refine ⟨fun _ _ hx => ?_, fun z => absurd z (by decide), fun z => absurd z (by decide)⟩
      have h : qs_part b (qs_p b ln n) o st = .inr q := h
      have lay : ∀ {d : qDen}, qs_lay b d st = .inr q → qt_m b st.1 ≠ 0 → qs_D st.2.length d → d.2.2.1 = 1 → qs_Q b len 0 st q := by
        intro d h h0 hd h1
        obtain ⟨st1, e2, h⟩ := qs_b_of h
        obtain ⟨g1, g2, g3⟩ := qs_G_adv hB hG h0 e2
        cases h
        refine ⟨g1, by show qs_D st1.2.length d; rw [g3]; exact hd, by show st.2.length ≤ st1.2.length; rw [g3]; exact Nat.le_refl _, by show st.1 + d.2.2.1 ≤ st1.1 + 0; omega⟩
      unfold qs_part at h
      by_cases m1 : qt_m b st.1 = 1
      · rw [if_pos m1] at h
        exact lay h (by omega) (D_lf (by decide) ⟨by simp, by simp⟩ (T_num (qt_num hB m1).1)) rfl
      rw [if_neg m1] at h
      by_cases m2 : qt_m b st.1 = 2
      · rw [if_pos m2] at h
        obtain ⟨st1, e2, h⟩ := qs_b_of h
        obtain ⟨k1, k2⟩ := qs_adv_of e2
        cases h
        subst k1
        obtain ⟨a1, a2, a3, a4⟩ := qt_pos hB hG.1
        have r1 := a3 hG.2.1
        have r2 := a4 hG.2.1 (by omega)
        have hl : (st.2 ++ [qt_r b st.1]).length = st.2.length + 1 := by rw [List.length_append]; rfl
        refine ⟨⟨r1.2, k2, (qs_J_real hB hG.1 hG.2.2 m2 _).1⟩, ?_, ?_, by show st.1 + 1 ≤ qt_to b st.1 + 0; omega⟩
        · show qs_D (st.2 ++ [qt_r b st.1]).length _
          rw [hl]
          exact D_lf (by decide) ⟨by simp, by simp⟩ (T_real (by omega) (by have := qs_G_nr hB hG; omega))
        · show st.2.length ≤ (st.2 ++ [qt_r b st.1]).length
          omega
      rw [if_neg m2] at h
      by_cases m3 : qt_m b st.1 = 16
      · rw [if_pos m3] at h
        exact lay h (by omega) (D_lf (by decide) ⟨by simp, by simp⟩ T_obj) rfl
      rw [if_neg m3] at h
      by_cases m4 : qt_m b st.1 = 17
      · rw [if_pos m4] at h
        exact lay h (by omega) (D_lf (by decide) ⟨by simp, by simp⟩ (T_yes (by decide))) rfl
      rw [if_neg m4] at h
      by_cases m5 : qt_m b st.1 = 18
      · rw [if_pos m5] at h
        exact lay h (by omega) (D_lf (by decide) ⟨by simp, by simp⟩ (T_yes (by decide))) rfl
      rw [if_neg m5] at h
      by_cases m6 : qt_m b st.1 = 3
      · rw [if_pos m6] at h
        exact (ih 6 0 0 _ _ st q h hG).1 (by decide) (by decide) (by omega)
      rw [if_neg m6] at h
      by_cases m7 : qt_m b st.1 = 54
      · rw [if_pos m7] at h
        obtain ⟨-, h⟩ := qs_bop h
        obtain ⟨st1, e2, h⟩ := qs_b_of h
        obtain ⟨g1, g2, g3⟩ := qs_G_adv hB hG (by omega) e2
        obtain ⟨q1, e3, h⟩ := qs_b_of h
        obtain ⟨a1, a2, a3, a4⟩ := hsum e3 g1
        obtain ⟨st2, e4, h⟩ := qs_b_of h
        obtain ⟨x1, x2⟩ := qs_ex_of e4
        obtain ⟨k1, k2, k3⟩ := qs_G_adv hB a1 (by omega) x2
        cases h
        rw [g3] at a3
        exact ⟨k1, by show qs_D st2.2.length q1.1; rw [k3]; exact a2, by show st.2.length ≤ st2.2.length; rw [k3]; omega, by show st.1 + q1.1.2.2.1 ≤ st2.1 + 0; omega⟩
      rw [if_neg m7] at h
      exact (ih 7 0 0 _ _ st q h hG).1 (by decide) (by decide) (by omega)
    | 6, h =>
      refine ⟨fun _ _ hx => ?_, fun z => absurd z (by decide), fun z => absurd z (by decide)⟩
      have h : qs_cell b ln (qs_p b ln n) o st = .inr q := h
      have m3 := hx.2 rfl
      obtain ⟨n1, -⟩ := qt_col hB m3
      have hl := hln _ n1
      unfold qs_cell at h
      by_cases c0 : ln (qt_n b st.1) = 8
      · rw [if_pos c0] at h; cases h
      rw [if_neg c0] at h
      have hl8 : ln (qt_n b st.1) < 8 := by omega
      obtain ⟨st1, e2, h⟩ := qs_b_of h
      obtain ⟨g1, g2, g3⟩ := qs_G_adv hB hG (by omega) e2
      by_cases c1 : qt_m b st1.1 = 56
      · rw [if_pos c1] at h
        obtain ⟨-, h⟩ := qs_bop h
        obtain ⟨st3, e3, h⟩ := qs_b_of h
        obtain ⟨k1, k2, k3⟩ := qs_G_adv hB g1 (by omega) e3
        obtain ⟨q1, e4, h⟩ := qs_b_of h
        obtain ⟨a1, a2, a3, a4⟩ := hsum e4 k1
        rw [k3, g3] at a3
        obtain ⟨st4, e5, h⟩ := qs_b_of h
        obtain ⟨x1, x2⟩ := qs_ex_of e5
        obtain ⟨l1, l2, l3⟩ := qs_G_adv hB a1 (by omega) x2
        obtain ⟨f1, h⟩ := qs_fit_of h
        have z := qs_beq.mp f1
        cases h
        refine ⟨l1, ?_, by show st.2.length ≤ st4.2.length; rw [l3]; omega, by show st.1 + (q1.1.2.2.1 + 1) ≤ st4.1 + 0; omega⟩
        show qs_D st4.2.length _
        rw [l3, z]
        exact D_un a2 (qw_kd_le hl8) (Or.inr z) (T_fetch hl8 n1) (Nat.le_of_ble_eq_true rfl)
      · rw [if_neg c1] at h
        cases h
        refine ⟨g1, ?_, by show st.2.length ≤ st1.2.length; rw [g3]; exact Nat.le_refl _, by show st.1 + 1 ≤ st1.1 + 0; omega⟩
        exact D_lf (qw_kd_le hl8) ⟨Nat.le_of_ble_eq_true rfl, Nat.le_of_ble_eq_true rfl⟩ (T_app T_obj (T_fetch hl8 n1) (Or.inr (Nat.le_of_ble_eq_true rfl)))
    | t + 7, h =>
      refine ⟨fun _ _ hx => ?_, fun z => absurd z (by omega), fun z => absurd z (by omega)⟩
      have h : qs_func b (qs_p b ln n) o st = .inr q := h
      unfold qs_func at h
      by_cases c0 : 22 ≤ qt_m b st.1 ∧ qt_m b st.1 ≤ 35
      · rw [if_pos c0] at h
        obtain ⟨st1, e2, h⟩ := qs_b_of h
        obtain ⟨g1, g2, g3⟩ := qs_G_adv hB hG (by omega) e2
        by_cases c1 : qt_m b st1.1 = 54
        · rw [if_pos c1] at h
          obtain ⟨-, h⟩ := qs_bop h
          obtain ⟨st3, e3, h⟩ := qs_b_of h
          obtain ⟨k1, k2, k3⟩ := qs_G_adv hB g1 (by omega) e3
          obtain ⟨q1, e4, h⟩ := qs_b_of h
          obtain ⟨a1, a2, a3, a4⟩ := hsum e4 k1
          rw [k3, g3] at a3
          by_cases c2 : qt_m b st.1 = 27 ∨ qt_m b st.1 = 28
          · rw [if_pos c2] at h
            obtain ⟨st4, e5, h⟩ := qs_b_of h
            obtain ⟨x1, x2⟩ := qs_ex_of e5
            obtain ⟨l1, l2, l3⟩ := qs_G_adv hB a1 (by omega) x2
            obtain ⟨q2, e6, h⟩ := qs_b_of h
            obtain ⟨c1, c2, c3, c4⟩ := hsum e6 l1
            rw [l3] at c3
            obtain ⟨st5, e7, h⟩ := qs_b_of h
            obtain ⟨x3, x4⟩ := qs_ex_of e7
            obtain ⟨m1, m2, m3⟩ := qs_G_adv hB c1 (by omega) x4
            obtain ⟨f1, h⟩ := qs_fit_of h
            cases h
            obtain ⟨z1, z2⟩ := Bool.and_eq_true_iff.mp f1
            have n1 : q1.1.1 ≠ 0 := fun e => by rw [e] at z1; cases z1
            have n2 : q2.1.1 ≠ 0 := fun e => by rw [e] at z2; cases z2
            refine ⟨m1, ?_, by show st.2.length ≤ st5.2.length; rw [m3]; omega, by show st.1 + (q1.1.2.2.1 + q2.1.2.2.1 + 1) ≤ st5.1 + 0; omega⟩
            show qs_D st5.2.length _
            rw [m3]
            exact D_fn2 (by assumption) (qs_Q_up hB c1 a2 (by omega)) c2 n1 n2
          · rw [if_neg c2] at h
            obtain ⟨st5, e7, h⟩ := qs_b_of h
            obtain ⟨x3, x4⟩ := qs_ex_of e7
            obtain ⟨m1, m2, m3⟩ := qs_G_adv hB a1 (by omega) x4
            obtain ⟨f1, h⟩ := qs_fit_of h
            cases h
            have n1 : q1.1.1 ≠ 0 := fun e => by rw [e] at f1; cases f1
            have hsz : (qs_fn (qt_m b st.1) q1.1).2.2.1 = q1.1.2.2.1 + 1 := by
              unfold qs_fn
              repeat' split
              all_goals rfl
            refine ⟨m1, ?_, by show st.2.length ≤ st5.2.length; rw [m3]; omega, by show st.1 + (qs_fn (qt_m b st.1) q1.1).2.2.1 ≤ st5.1 + 0; omega⟩
            show qs_D st5.2.length _
            rw [m3]
            exact D_fn c0 (by omega) a2 n1
        · rw [if_neg c1] at h
          cases h
      · rw [if_neg c0] at h
        cases h
end
