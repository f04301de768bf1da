/-! what a reading keeps; no store in a sum -/
theorem qt_m0 {b : Nat → Nat} {p : Nat} (h : qt_m b p = 0) : b (qt_from b p) = 256 := by
  unfold qt_m at h
  by_cases c1 : b (qt_from b p) = 256
  · exact c1
  rw [if_neg c1] at h
  by_cases c2 : qt_le (b (qt_from b p)) = true
  · rw [if_pos c2] at h
    exact absurd h (qt_wm_0 _).1
  rw [if_neg c2] at h
  by_cases c3 : qt_fi (b (qt_from b p)) = true
  · rw [if_pos c3] at h
    repeat' split at h
    all_goals omega
  rw [if_neg c3] at h
  by_cases c4 : b (qt_from b p) = 36
  · rw [if_pos c4] at h
    split at h <;> omega
  rw [if_neg c4] at h
  exact absurd h (qt_sg_m _ _ _).1
def q_ns (l : List (Nat × Nat)) : Prop := ∀ e ∈ l, ¬ (20 ≤ e.1 ∧ e.1 < 28)
theorem ns_nil : q_ns [] := fun e h => by cases h
theorem ns_app {l m : List (Nat × Nat)} (h : q_ns l) (g : q_ns m) : q_ns (l ++ m) := fun e he => by
  rcases List.mem_append.mp he with z | z
  · exact h e z
  · exact g e z
theorem ns_c {o a : Nat} {l : List (Nat × Nat)} (h : o < 20 ∨ 28 ≤ o) (g : q_ns l) : q_ns ((o, a) :: l) := fun e he => by
  rcases List.mem_cons.mp he with z | z
  · rw [z]; show ¬ (20 ≤ o ∧ o < 28); omega
  · exact g e z
theorem ns_1 {o a : Nat} (h : o < 20 ∨ 28 ≤ o) : q_ns [(o, a)] := ns_c h ns_nil
theorem ns_2 {o a o2 a2 : Nat} (h : o < 20 ∨ 28 ≤ o) (h2 : o2 < 20 ∨ 28 ≤ o2) : q_ns [(o, a), (o2, a2)] := ns_c h (ns_1 h2)
theorem ns_sh {l : List (Nat × Nat)} (h : q_ns l) (n : Nat) : q_ns (qs_sh n l) := fun e he => by
  unfold qs_sh at he
  obtain ⟨e', h1, h2⟩ := List.mem_map.mp he
  rw [← h2]
  unfold qs_s1
  split <;> exact h e' h1
theorem ns_cv (f t : Nat) : q_ns (qs_cv f t) := by
  unfold qs_cv
  split
  · exact ns_nil
  · exact ns_1 (Or.inr (by omega))
theorem ns_un {k kc : Nat} {t : List (Nat × Nat)} {x : qDen} (h : q_ns x.2.2.2) (ht : q_ns t) : q_ns (d_un k kc t x).2.2.2 := ns_app (ns_app h (ns_cv _ _)) ht
theorem ns_bi {k kx ky : Nat} {t : List (Nat × Nat)} {x y : qDen} (h : q_ns x.2.2.2) (g : q_ns y.2.2.2) (ht : q_ns t) : q_ns (d_bi k kx ky t x y).2.2.2 := ns_app (ns_app (ns_app h (ns_cv _ _)) (ns_sh (ns_app g (ns_cv _ _)) _)) ht
theorem ns_lg {v : Nat} {x y : qDen} (h : q_ns x.2.2.2) (g : q_ns y.2.2.2) : q_ns (d_lg v x y).2.2.2 := ns_app (ns_app (ns_app h (ns_1 (Or.inr (by omega)))) (ns_sh g _)) (ns_2 (Or.inr (by decide)) (Or.inl (by decide)))
theorem ns_ch {k : Nat} {c x y : qDen} (hc : q_ns c.2.2.2) (h : q_ns x.2.2.2) (g : q_ns y.2.2.2) : q_ns (d_ch k c x y).2.2.2 := ns_app (ns_app (ns_app (ns_app hc (ns_1 (Or.inr (by decide)))) (ns_sh (ns_app h (ns_cv _ _)) _)) (ns_1 (Or.inr (by decide)))) (ns_sh (ns_app g (ns_cv _ _)) _)
theorem qs_op_100 (m : Nat) : 100 ≤ qs_op m := by
  unfold qs_op
  repeat' split
  all_goals omega
theorem ns_join {m : Nat} {x y : qDen} (h : q_ns x.2.2.2) (g : q_ns y.2.2.2) : q_ns (qs_join m x y).2.2.2 := by
  have := qs_op_100 m
  unfold qs_join
  split
  · exact ns_lg h g
  · split
    · exact ns_bi h g (ns_1 (Or.inr (by omega)))
    · split
      · exact ns_bi h g (ns_2 (Or.inr (by omega)) (Or.inr (by omega)))
      · exact ns_bi h g (ns_1 (Or.inr (by omega)))
theorem ns_fn {m : Nat} {x : qDen} (h : q_ns x.2.2.2) : q_ns (qs_fn m x).2.2.2 := by
  unfold qs_fn
  split
  · exact ns_un h (ns_1 (Or.inr (by omega)))
  · split
    · exact ns_un h (ns_1 (Or.inr (by omega)))
    · split
      · exact ns_un h (ns_1 (Or.inr (by omega)))
      · split
        · exact ns_un h (ns_1 (Or.inr (by omega)))
        · exact ns_un h ns_nil
theorem ns_fn2 {m : Nat} {x y : qDen} (h : q_ns x.2.2.2) (g : q_ns y.2.2.2) : q_ns (qs_fn2 m x y).2.2.2 := ns_bi h g (ns_1 (Or.inr (by omega)))
section
variable {b ln : Nat → Nat} {P : qP → Prop}
theorem qs_keep (hln : ∀ c, ln c ≤ 8) (hadv : ∀ st st', P st → qs_adv b st = .inr st' → P st') (hreal : ∀ st st', P st → qt_m b st.1 = 2 → qs_adv b (st.1, st.2 ++ [qt_r b st.1]) = .inr st' → P st') : ∀ n tag x y o d st q, qs_p b ln n tag x y o d st = .inr q → P st → q_ns d.2.2.2 → P q.2 ∧ q_ns q.1.2.2.2
  | 0 => fun tag x y o d st q h => by cases h
  | n + 1 => fun tag x y o d st q h hP hd => by
    have ih := qs_keep hln hadv hreal n
    have n0 : q_ns (d_lf 0 []).2.2.2 := ns_nil
    have hop : ∀ {st st' : qP} {o : Nat}, qs_op1 b o st = .inr st' → P st → P st' := fun {st st' o} h hp => by
      obtain ⟨e, -⟩ := qs_op1_of h
      rw [e]; exact hp
    have hex : ∀ {m : Nat} {st st' : qP}, qs_ex b m st = .inr st' → P st → P st' := fun {m st st'} h hp => hadv _ _ hp (qs_ex_of h).2
    match tag, h with
    | 0, h =>
      obtain ⟨q1, e1, e2⟩ := qs_b_of (show qs_sum b (qs_p b ln n) o st = .inr q from h)
      have hq := ih _ _ _ _ _ _ _ e1 hP n0
      split at e2
      · exact ih _ _ _ _ _ _ _ e2 hq.1 hq.2
      · cases e2; exact hq
    | 1, h =>
      have h : qs_choice b (qs_p b ln n) o d st = .inr q := h
      obtain ⟨st0, e0, h⟩ := qs_b_of h
      obtain ⟨f1, h⟩ := qs_fit_of h
      obtain ⟨st1, e2, h⟩ := qs_b_of h
      obtain ⟨q1, e3, h⟩ := qs_b_of h
      have h1 := ih _ _ _ _ _ _ _ e3 (hadv _ _ (hop e0 hP) e2) n0
      obtain ⟨st2, e4, h⟩ := qs_b_of h
      obtain ⟨q2, e5, h⟩ := qs_b_of h
      have h2 := ih _ _ _ _ _ _ _ e5 (hex e4 h1.1) n0
      obtain ⟨f2, h⟩ := qs_fit_of h
      cases h
      exact ⟨h2.1, ns_ch hd h1.2 h2.2⟩
    | 2, h =>
      have h : qs_joined b (qs_p b ln n) x o st = .inr q := h
      unfold qs_joined at h
      split at h
      · obtain ⟨st0, e0, h⟩ := qs_b_of h
        obtain ⟨st1, e2, h⟩ := qs_b_of h
        obtain ⟨q1, e3, h⟩ := qs_b_of h
        have h1 := ih _ _ _ _ _ _ _ e3 (hadv _ _ (hop e0 hP) e2) n0
        obtain ⟨f1, h⟩ := qs_fit_of h
        exact ih _ _ _ _ _ _ _ h h1.1 (ns_un h1.2 (ns_1 (Or.inr (by decide))))
      · obtain ⟨q1, e3, h⟩ := qs_b_of h
        have h1 := ih _ _ _ _ _ _ _ e3 hP n0
        exact ih _ _ _ _ _ _ _ h h1.1 h1.2
    | 3, h =>
      have h : qs_loop b (qs_p b ln n) x y o d st = .inr q := h
      unfold qs_loop at h
      split at h
      · obtain ⟨st1, e2, h⟩ := qs_b_of h
        obtain ⟨q1, e3, h⟩ := qs_b_of h
        have h1 := ih _ _ _ _ _ _ _ e3 (hadv _ _ hP e2) n0
        obtain ⟨f1, h⟩ := qs_fit_of h
        exact ih _ _ _ _ _ _ _ h h1.1 (ns_join hd h1.2)
      · cases h
        exact ⟨hP, hd⟩
    | 4, h =>
      have h : qs_signed b (qs_p b ln n) o st = .inr q := h
      unfold qs_signed at h
      split at h
      · obtain ⟨st0, e0, h⟩ := qs_b_of h
        obtain ⟨st1, e2, h⟩ := qs_b_of h
        obtain ⟨q1, e3, h⟩ := qs_b_of h
        have h1 := ih _ _ _ _ _ _ _ e3 (hadv _ _ (hop e0 hP) e2) n0
        obtain ⟨f1, h⟩ := qs_fit_of h
        cases h
        refine ⟨h1.1, ns_un h1.2 (ns_1 (Or.inr ?_))⟩
        split <;> omega
      · exact ih _ _ _ _ _ _ _ h hP n0
    | 5, h =>
      have h : qs_part b (qs_p b ln n) o st = .inr q := h
      have lay : ∀ {d : qDen} {st : qP}, qs_lay b d st = .inr q → P st → q_ns d.2.2.2 → P q.2 ∧ q_ns q.1.2.2.2 := fun {d st} h hp hd => by
        obtain ⟨st1, e2, h⟩ := qs_b_of h
        cases h
        exact ⟨hadv _ _ hp e2, hd⟩
      unfold qs_part at h
      split at h
      · exact lay h hP (ns_1 (Or.inl (by decide)))
      split at h
      · rename_i m2
        obtain ⟨st1, e2, h⟩ := qs_b_of h
        cases h
        exact ⟨hreal _ _ hP m2 e2, ns_1 (Or.inl (by decide))⟩
      split at h
      · exact lay h hP (ns_1 (Or.inl (by decide)))
      split at h
      · exact lay h hP (ns_1 (Or.inl (by decide)))
      split at h
      · exact lay h hP (ns_1 (Or.inl (by decide)))
      split at h
      · exact ih _ _ _ _ _ _ _ h hP n0
      split at h
      · obtain ⟨st0, e0, h⟩ := qs_b_of h
        obtain ⟨st1, e2, h⟩ := qs_b_of h
        obtain ⟨q1, e3, h⟩ := qs_b_of h
        have h1 := ih _ _ _ _ _ _ _ e3 (hadv _ _ (hop e0 hP) e2) n0
        obtain ⟨st2, e4, h⟩ := qs_b_of h
        cases h
        exact ⟨hex e4 h1.1, h1.2⟩
      · exact ih _ _ _ _ _ _ _ h hP n0
    | 6, h =>
      have h : qs_cell b ln (qs_p b ln n) o st = .inr q := h
      have hl := hln (qt_n b st.1)
      unfold qs_cell at h
      split at h
      · cases h
      obtain ⟨st1, e2, h⟩ := qs_b_of h
      have p1 := hadv _ _ hP e2
      split at h
      · obtain ⟨st0, e0, h⟩ := qs_b_of h
        obtain ⟨st3, e3, h⟩ := qs_b_of h
        obtain ⟨q1, e4, h⟩ := qs_b_of h
        have h1 := ih _ _ _ _ _ _ _ e4 (hadv _ _ (hop e0 p1) e3) n0
        obtain ⟨st4, e5, h⟩ := qs_b_of h
        obtain ⟨f1, h⟩ := qs_fit_of h
        cases h
        exact ⟨hex e5 h1.1, ns_un h1.2 (ns_1 (Or.inl (by omega)))⟩
      · cases h
        exact ⟨p1, ns_2 (Or.inl (by decide)) (Or.inl (by omega))⟩
    | t + 7, h =>
      have h : qs_func b (qs_p b ln n) o st = .inr q := h
      unfold qs_func at h
      split at h
      · obtain ⟨st1, e2, h⟩ := qs_b_of h
        have p1 := hadv _ _ hP e2
        split at h
        · obtain ⟨st0, e0, h⟩ := qs_b_of h
          obtain ⟨st3, e3, h⟩ := qs_b_of h
          obtain ⟨q1, e4, h⟩ := qs_b_of h
          have h1 := ih _ _ _ _ _ _ _ e4 (hadv _ _ (hop e0 p1) e3) n0
          split at h
          · obtain ⟨st4, e5, h⟩ := qs_b_of h
            obtain ⟨q2, e6, h⟩ := qs_b_of h
            have h2 := ih _ _ _ _ _ _ _ e6 (hex e5 h1.1) n0
            obtain ⟨st5, e7, h⟩ := qs_b_of h
            obtain ⟨f1, h⟩ := qs_fit_of h
            cases h
            exact ⟨hex e7 h2.1, ns_fn2 h1.2 h2.2⟩
          · obtain ⟨st5, e7, h⟩ := qs_b_of h
            obtain ⟨f1, h⟩ := qs_fit_of h
            cases h
            exact ⟨hex e7 h1.1, ns_fn h1.2⟩
        · cases h
      · cases h
/-- all parts of a query without a store -/
def q_nn (x : qX) : Prop := (∀ d, x.1 = some d → q_ns d.2.2.2) ∧ (∀ d, x.2.1 = some d → q_ns d.2.2.2) ∧ ∀ d, x.2.2.1 = some d → q_ns d.2.2.2
theorem q_cond_k (hln : ∀ c, ln c ≤ 8) (hadv : ∀ st st', P st → qs_adv b st = .inr st' → P st') (hreal : ∀ st st', P st → qt_m b st.1 = 2 → qs_adv b (st.1, st.2 ++ [qt_r b st.1]) = .inr st' → P st') {x : qX} {st : qP} {s : qXS} (h : q_cond b ln qN x st = .inr s) (hP : P st) (hx : q_nn x) : P s.2 ∧ q_nn s.1 := by
  unfold q_cond at h
  obtain ⟨r, h1, h⟩ := qs_b_of h
  obtain ⟨-, h⟩ := qs_fit_of h
  cases h
  obtain ⟨a1, a2⟩ := qs_keep hln hadv hreal _ _ _ _ _ _ _ _ h1 hP ns_nil
  exact ⟨a1, fun d hd => (by cases hd; exact a2), hx.2.1, hx.2.2⟩
theorem q_where_k (hln : ∀ c, ln c ≤ 8) (hadv : ∀ st st', P st → qs_adv b st = .inr st' → P st') (hreal : ∀ st st', P st → qt_m b st.1 = 2 → qs_adv b (st.1, st.2 ++ [qt_r b st.1]) = .inr st' → P st') {x : qX} {st : qP} {s : qXS} (h : q_where b ln qN x st = .inr s) (hP : P st) (hx : q_nn x) : P s.2 ∧ q_nn s.1 := by
  unfold q_where at h
  split at h
  · obtain ⟨st1, h1, h⟩ := qs_b_of h
    exact q_cond_k hln hadv hreal h (hadv _ _ hP h1) hx
  · cases h; exact ⟨hP, hx⟩
theorem q_main_k (hln : ∀ c, ln c ≤ 8) (hadv : ∀ st st', P st → qs_adv b st = .inr st' → P st') (hreal : ∀ st st', P st → qt_m b st.1 = 2 → qs_adv b (st.1, st.2 ++ [qt_r b st.1]) = .inr st' → P st') {x : qX} {st : qP} {s : qXS} (h : q_main b ln qN x st = .inr s) (hP : P st) (hx : q_nn x) : P s.2 ∧ q_nn s.1 := by
  unfold q_main at h
  obtain ⟨r, h1, h⟩ := qs_b_of h
  obtain ⟨-, h⟩ := qs_fit_of h
  cases h
  obtain ⟨a1, a2⟩ := qs_keep hln hadv hreal _ _ _ _ _ _ _ _ h1 hP ns_nil
  exact ⟨a1, hx.1, fun d hd => (by cases hd; exact a2), hx.2.2⟩
theorem q_body_k (hln : ∀ c, ln c ≤ 8) (hadv : ∀ st st', P st → qs_adv b st = .inr st' → P st') (hreal : ∀ st st', P st → qt_m b st.1 = 2 → qs_adv b (st.1, st.2 ++ [qt_r b st.1]) = .inr st' → P st') {sort : Nat} {st : qP} {s : qXS} (h : q_body b ln qN sort st = .inr s) (hP : P st) : P s.2 ∧ q_nn s.1 := by
  have h0 : q_nn q_x0 := ⟨fun d hd => (by cases hd), fun d hd => (by cases hd), fun d hd => (by cases hd)⟩
  unfold q_body at h
  split at h
  · unfold q_find at h
    obtain ⟨s1, h1, h⟩ := qs_b_of h
    obtain ⟨s2, h2, h⟩ := qs_b_of h
    have k1 := q_cond_k hln hadv hreal h1 hP h0
    have k2 : P s2.2 ∧ q_nn s2.1 := by
      unfold q_order at h2
      split at h2
      · obtain ⟨st1, e1, h2⟩ := qs_b_of h2
        obtain ⟨s3, e2, h2⟩ := qs_b_of h2
        have k3 := q_main_k hln hadv hreal e2 (hadv _ _ k1.1 e1) k1.2
        unfold q_down at h2
        split at h2
        · obtain ⟨st2, e3, h2⟩ := qs_b_of h2
          cases h2
          exact ⟨hadv _ _ k3.1 e3, k3.2⟩
        · cases h2; exact k3
      · cases h2; exact k1
    unfold q_first at h
    split at h
    · obtain ⟨st1, e1, h⟩ := qs_b_of h
      split at h
      · obtain ⟨st2, e2, h⟩ := qs_b_of h
        cases h
        exact ⟨hadv _ _ (hadv _ _ k2.1 e1) e2, k2.2⟩
      · cases h
    · cases h; exact k2
  split at h
  · unfold q_fold at h
    split at h
    · cases h
    obtain ⟨st1, e1, h⟩ := qs_b_of h
    obtain ⟨s1, e2, h⟩ := qs_b_of h
    have k1 : P s1.2 ∧ q_nn s1.1 := by
      split at e2
      · cases e2
        exact ⟨hadv _ _ hP e1, h0⟩
      · exact q_main_k hln hadv hreal e2 (hadv _ _ hP e1) h0
    obtain ⟨s2, e3, h⟩ := qs_b_of h
    have k2 := q_where_k hln hadv hreal e3 k1.1 k1.2
    unfold q_by at h
    split at h
    · obtain ⟨st2, e4, h⟩ := qs_b_of h
      obtain ⟨r, e5, h⟩ := qs_b_of h
      obtain ⟨-, h⟩ := qs_fit_of h
      cases h
      obtain ⟨a1, a2⟩ := qs_keep hln hadv hreal _ _ _ _ _ _ _ _ e5 (hadv _ _ k2.1 e4) ns_nil
      exact ⟨a1, k2.2.1, k2.2.2.1, fun d hd => (by cases hd; exact a2)⟩
    · cases h; exact k2
  · unfold q_set at h
    split at h
    · split at h
      · cases h
      obtain ⟨st1, e1, h⟩ := qs_b_of h
      obtain ⟨st2, e2, h⟩ := qs_b_of h
      obtain ⟨r, e3, h⟩ := qs_b_of h
      obtain ⟨-, h⟩ := qs_fit_of h
      obtain ⟨a1, a2⟩ := qs_keep hln hadv hreal _ _ _ _ _ _ _ _ e3 (hadv _ _ (hadv _ _ hP e1) (qs_ex_of e2).2) ns_nil
      exact q_where_k hln hadv hreal h a1 ⟨fun d hd => (by cases hd), fun d hd => (by cases hd; exact a2), fun d hd => (by cases hd)⟩
    · cases h
end
