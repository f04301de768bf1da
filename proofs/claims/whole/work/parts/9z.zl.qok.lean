/-! what a query that was read is like -/
section
variable {b ln : Nat → Nat} {len : Nat} {st : qP} {x : qX} {s : qXS}
theorem D_up {d : qDen} {n : Nat} (hb : qt_B b len) (hG : qs_G b len st) (hd : qs_D n d) (h : n ≤ st.2.length) : qs_D st.2.length d := qs_Q_up hb hG hd h
/-- all sums so far are good -/
def q_gd (nr : Nat) (x : qX) : Prop := (∀ d, x.1 = some d → qs_D nr d ∧ d.1 = 0) ∧ (∀ d, x.2.1 = some d → qs_D nr d) ∧ (∀ d, x.2.2.1 = some d → qs_D nr d ∧ (d.1 = 1 ∨ d.1 = 2))
theorem gd_up {nr : Nat} (hb : qt_B b len) (hG : qs_G b len st) (h : q_gd nr x) (hn : nr ≤ st.2.length) : q_gd st.2.length x := ⟨fun d hd => ⟨D_up hb hG (h.1 d hd).1 hn, (h.1 d hd).2⟩, fun d hd => D_up hb hG (h.2.1 d hd) hn, fun d hd => ⟨D_up hb hG (h.2.2 d hd).1 hn, (h.2.2 d hd).2⟩⟩
theorem adv_g (hb : qt_B b len) (hG : qs_G b len st) {st' : qP} (h : qs_adv b st = .inr st') (h0 : qt_m b st.1 ≠ 0) (hg : q_gd st.2.length x) : qs_G b len st' ∧ q_gd st'.2.length x ∧ st'.2 = st.2 := by
  obtain ⟨q1, q2, q3⟩ := qs_G_adv hb hG h0 h
  exact ⟨q1, by rw [q3]; exact hg, q3⟩
theorem cond_ok (hb : qt_B b len) (hln : ∀ c, c < 10 → ln c ≤ 8) (hG : qs_G b len st) (hg : q_gd st.2.length x) (h : q_cond b ln qN x st = .inr s) : qs_G b len s.2 ∧ q_gd s.2.2.length s.1 ∧ s.1.2 = x.2 ∧ s.1.1 ≠ none := by
  unfold q_cond at h
  obtain ⟨r, h1, h2⟩ := qs_b_of h
  obtain ⟨h3, h4⟩ := qs_fit_of h2
  cases h4
  obtain ⟨p1, p2, p3, p4⟩ := good2 hb hln hG h1
  have hu := gd_up hb p1 hg p3
  exact ⟨p1, ⟨fun d hd => by cases hd; exact ⟨p2, qs_beq.mp h3⟩, hu.2.1, hu.2.2⟩, rfl, by simp⟩
theorem where_ok (hb : qt_B b len) (hln : ∀ c, c < 10 → ln c ≤ 8) (hG : qs_G b len st) (hg : q_gd st.2.length x) (h : q_where b ln qN x st = .inr s) : qs_G b len s.2 ∧ q_gd s.2.2.length s.1 ∧ s.1.2 = x.2 := by
  unfold q_where at h
  split at h
  · rename_i z
    obtain ⟨st1, h1, h2⟩ := qs_b_of h
    obtain ⟨a1, a2, -⟩ := adv_g hb hG h1 (by omega) hg
    obtain ⟨c1, c2, c3, -⟩ := cond_ok hb hln a1 a2 h2
    exact ⟨c1, c2, c3⟩
  · cases h
    exact ⟨hG, hg, rfl⟩
theorem main_ok (hb : qt_B b len) (hln : ∀ c, c < 10 → ln c ≤ 8) (hG : qs_G b len st) (hg : q_gd st.2.length x) (h : q_main b ln qN x st = .inr s) : qs_G b len s.2 ∧ q_gd s.2.2.length s.1 ∧ s.1.1 = x.1 ∧ s.1.2.2 = x.2.2 ∧ ∃ d, s.1.2.1 = some d ∧ d.1 ≠ 0 := by
  unfold q_main at h
  obtain ⟨r, h1, h2⟩ := qs_b_of h
  obtain ⟨h3, h4⟩ := qs_fit_of h2
  cases h4
  obtain ⟨p1, p2, p3, p4⟩ := good0 hb hln hG h1
  have hu := gd_up hb p1 hg p3
  exact ⟨p1, ⟨hu.1, fun d hd => by cases hd; exact p2, hu.2.2⟩, rfl, rfl, r.1, rfl, fun u => by rw [u] at h3; cases h3⟩
theorem by_ok (hb : qt_B b len) (hln : ∀ c, c < 10 → ln c ≤ 8) (hG : qs_G b len st) (hg : q_gd st.2.length x) (h : q_by b ln qN x st = .inr s) : qs_G b len s.2 ∧ q_gd s.2.2.length s.1 ∧ s.1.1 = x.1 ∧ s.1.2.1 = x.2.1 ∧ s.1.2.2.2 = x.2.2.2 := by
  unfold q_by at h
  split at h
  · obtain ⟨st1, h1, h2⟩ := qs_b_of h
    obtain ⟨a1, a2, -⟩ := adv_g hb hG h1 (by omega) hg
    obtain ⟨r, h3, h4⟩ := qs_b_of h2
    obtain ⟨h5, h6⟩ := qs_fit_of h4
    cases h6
    obtain ⟨p1, p2, p3, p4⟩ := good0 hb hln a1 h3
    have hu := gd_up hb p1 a2 p3
    exact ⟨p1, ⟨hu.1, hu.2.1, fun d hd => by
      cases hd
      refine ⟨p2, ?_⟩
      rcases Bool.or_eq_true_iff.mp h5 with v | v
      · exact Or.inl (qs_beq.mp v)
      · exact Or.inr (qs_beq.mp v)⟩, rfl, rfl, rfl⟩
  · cases h
    exact ⟨hG, hg, rfl, rfl, rfl⟩
theorem q_read_ok (hb : qt_B b len) (hln : ∀ c, c < 10 → ln c ≤ 8) (h0 : qs_G b len (0, [])) {r : Nat × qXS} (h : q_read b ln qN = .inr r) : r.1 < 3 ∧ qs_G b len r.2.2 ∧ q_ok ln r.2.2.2.length r.1 r.2.1 ∧ (∀ v, r.2.1.2.2.2.2.1 = some v → v < 2147483648) := by
  unfold q_read at h
  split at h
  · cases h
  split at h
  · cases h
  rename_i h63 hso
  obtain ⟨st, h1, h2⟩ := qs_b_of h
  have hm0 : qt_m b 0 ≠ 0 := fun u => hso (by rw [u]; rfl)
  have g0 : q_gd (0, ([] : List UInt64)).2.length q_x0 := ⟨fun d hd => (by cases hd), fun d hd => (by cases hd), fun d hd => (by cases hd)⟩
  obtain ⟨a1, a2, -⟩ := adv_g hb h0 h1 hm0 g0
  obtain ⟨s, h3, h4⟩ := qs_b_of h2
  unfold q_end at h4
  split at h4
  · cases h4
    have hs3 : q_so (qt_m b 0) < 3 := by
      have : q_so (qt_m b 0) ≤ 3 := by
        unfold q_so
        repeat' split
        all_goals omega
      omega
    refine ⟨hs3, ?_⟩
    show qs_G b len s.2 ∧ q_ok ln s.2.2.length (q_so (qt_m b 0)) s.1 ∧ (∀ v, s.1.2.2.2.2.1 = some v → v < 2147483648)
    unfold q_body at h3
    rcases (show q_so (qt_m b 0) = 0 ∨ q_so (qt_m b 0) = 1 ∨ q_so (qt_m b 0) = 2 by omega) with z | z | z
    · rw [z] at h3 ⊢
      rw [if_pos rfl] at h3
      unfold q_find at h3
      obtain ⟨s1, h5, h6⟩ := qs_b_of h3
      obtain ⟨s2, h7, h8⟩ := qs_b_of h6
      obtain ⟨b1, b2, b3, b4⟩ := cond_ok hb hln a1 a2 h5
      -- order
      have ho : qs_G b len s2.2 ∧ q_gd s2.2.2.length s2.1 ∧ s2.1.1 = s1.1.1 ∧ s2.1.2.2.1 = s1.1.2.2.1 ∧ s2.1.2.2.2.2 = s1.1.2.2.2.2 ∧ ((s2.1.2.1 = s1.1.2.1 ∧ s2.1.2.2.2.1 = s1.1.2.2.2.1) ∨ ((∃ d, s2.1.2.1 = some d ∧ d.1 ≠ 0) ∧ (s2.1.2.2.2.1 = 1 ∨ s2.1.2.2.2.1 = 2))) := by
        unfold q_order at h7
        split at h7
        · obtain ⟨st2, c1, c2⟩ := qs_b_of h7
          obtain ⟨e1, e2, -⟩ := adv_g hb b1 c1 (by omega) b2
          obtain ⟨s3, c3, c4⟩ := qs_b_of c2
          obtain ⟨f1, f2, f3, f4, d, f5, f6⟩ := main_ok hb hln e1 e2 c3
          unfold q_down at c4
          split at c4
          · obtain ⟨st3, c5, c6⟩ := qs_b_of c4
            obtain ⟨g1, g2, -⟩ := adv_g hb f1 c5 (by omega) f2
            cases c6
            exact ⟨g1, g2, f3, by show s3.1.2.2.1 = _; rw [f4], by show s3.1.2.2.2.2 = _; rw [f4], Or.inr ⟨⟨d, f5, f6⟩, Or.inr rfl⟩⟩
          · cases c4
            exact ⟨f1, f2, f3, by show s3.1.2.2.1 = _; rw [f4], by show s3.1.2.2.2.2 = _; rw [f4], Or.inr ⟨⟨d, f5, f6⟩, Or.inl rfl⟩⟩
        · cases h7
          exact ⟨b1, b2, rfl, rfl, rfl, Or.inl ⟨rfl, rfl⟩⟩
      obtain ⟨o1, o2, o3, o4, o5, o6⟩ := ho
      have hx1 : s1.1.2 = q_x0.2 := b3
      have k1 : s2.1.2.2.1 = none := by rw [o4, hx1]; rfl
      have k2 : s2.1.2.2.2.2 = q_x0.2.2.2.2 := by rw [o5, hx1]
      have k3 : s2.1.1 ≠ none := by rw [o3]; exact b4
      have k4 : (s2.1.2.1 = none ∧ s2.1.2.2.2.1 = 0) ∨ ((∃ d, s2.1.2.1 = some d ∧ d.1 ≠ 0) ∧ (s2.1.2.2.2.1 = 1 ∨ s2.1.2.2.2.1 = 2)) := by
        rcases o6 with ⟨u1, u2⟩ | u
        · left; rw [u1, u2, hx1]; exact ⟨rfl, rfl⟩
        · exact Or.inr u
      unfold q_first at h8
      split at h8
      · obtain ⟨st2, c1, c2⟩ := qs_b_of h8
        obtain ⟨e1, e2, -⟩ := adv_g hb o1 c1 (by omega) o2
        split at c2
        · rename_i hm1
          obtain ⟨st3, c3, c4⟩ := qs_b_of c2
          obtain ⟨f1, f2, -⟩ := adv_g hb e1 c3 (by omega) e2
          cases c4
          refine ⟨f1, ⟨f2.1, f2.2.1, f2.2.2, Or.inl ⟨rfl, k3, k1, ?_, ?_, k4⟩⟩, fun v hv => ?_⟩
          · show s2.1.2.2.2.2.2.1 = 5; rw [k2]; rfl
          · show s2.1.2.2.2.2.2.2 = none; rw [k2]; rfl
          · have hv : some (qt_n b st2.1) = some v := hv
            cases hv
            exact (qt_num hb hm1).1
        · cases c2
      · cases h8
        refine ⟨o1, ⟨o2.1, o2.2.1, o2.2.2, Or.inl ⟨rfl, k3, k1, ?_, ?_, k4⟩⟩, fun v hv => ?_⟩
        · rw [k2]; rfl
        · rw [k2]; rfl
        · rw [k2] at hv; cases hv
    · rw [z] at h3 ⊢
      rw [if_neg (by decide), if_pos rfl] at h3
      unfold q_fold at h3
      split at h3
      · cases h3
      rename_i h5
      obtain ⟨st1, c1, c2⟩ := qs_b_of h3
      have hm1 : qt_m b st.1 ≠ 0 := fun u => h5 (by rw [u]; rfl)
      obtain ⟨e1, e2, -⟩ := adv_g hb a1 c1 hm1 a2
      obtain ⟨s1, c3, c4⟩ := qs_b_of c2
      obtain ⟨s2, c5, c6⟩ := qs_b_of c4
      have hhw : q_hw (qt_m b st.1) ≤ 5 := by
        unfold q_hw
        repeat' split
        all_goals omega
      have hmain : qs_G b len s1.2 ∧ q_gd s1.2.2.length s1.1 ∧ s1.1.2.2.2.1 = 0 ∧ s1.1.2.2.2.2.1 = none ∧ s1.1.2.2.2.2.2.2 = none ∧ ((s1.1.2.1 = none ∧ s1.1.2.2.2.2.2.1 = 0) ∨ ((∃ d, s1.1.2.1 = some d ∧ d.1 ≠ 0) ∧ 1 ≤ s1.1.2.2.2.2.2.1 ∧ s1.1.2.2.2.2.2.1 ≤ 4)) := by
        split at c3
        · cases c3
          exact ⟨e1, e2, rfl, rfl, rfl, Or.inl ⟨rfl, rfl⟩⟩
        · have e2' : q_gd st1.2.length (q_how q_x0 (q_hw (qt_m b st.1))) := e2
          obtain ⟨f1, f2, f3, f4, d, f5, f6⟩ := main_ok hb hln e1 e2' c3
          refine ⟨f1, f2, ?_, ?_, ?_, Or.inr ⟨⟨d, f5, f6⟩, ?_, ?_⟩⟩
          · rw [f4]; rfl
          · rw [f4]; rfl
          · rw [f4]; rfl
          · rw [f4]; show 1 ≤ q_hw (qt_m b st.1); omega
          · rw [f4]; show q_hw (qt_m b st.1) ≤ 4; omega
      obtain ⟨m1, m2, m3, m4, m5, m6⟩ := hmain
      obtain ⟨n1, n2, n3⟩ := where_ok hb hln m1 m2 c5
      obtain ⟨p1, p2, p3, p4, p5⟩ := by_ok hb hln n1 n2 c6
      refine ⟨p1, ⟨p2.1, p2.2.1, p2.2.2, Or.inr (Or.inl ⟨rfl, ?_, ?_, ?_, ?_⟩)⟩, fun v hv => ?_⟩
      · rw [p5, n3]; exact m3
      · rw [p5, n3]; exact m4
      · rw [p5, n3]; exact m5
      · rw [p4, p5, n3]; exact m6
      · rw [p5, n3, m4] at hv; cases hv
    · rw [z] at h3 ⊢
      rw [if_neg (by decide), if_neg (by decide)] at h3
      unfold q_set at h3
      split at h3
      · rename_i hm3
        have hc := (qt_col hb hm3).1
        split at h3
        · cases h3
        rename_i hl8
        obtain ⟨st1, c1, c2⟩ := qs_b_of h3
        obtain ⟨e1, e2, -⟩ := adv_g hb a1 c1 (by omega) a2
        obtain ⟨st2, c3, c4⟩ := qs_b_of c2
        obtain ⟨g1, g2⟩ := qs_ex_of c3
        obtain ⟨f1, f2, -⟩ := adv_g hb e1 g2 (by omega) e2
        obtain ⟨r2, c5, c6⟩ := qs_b_of c4
        obtain ⟨c7, c8⟩ := qs_fit_of c6
        obtain ⟨p1, p2, p3, p4⟩ := good0 hb hln f1 c5
        have hu := gd_up hb p1 f2 p3
        have hu2 : q_gd r2.2.2.length (q_to q_x0 r2.1 (qt_n b st.1)) := ⟨hu.1, fun d hd => by cases hd; exact p2, hu.2.2⟩
        obtain ⟨n1, n2, n3⟩ := where_ok hb hln p1 hu2 c8
        have hln8 := hln _ hc
        refine ⟨n1, ⟨n2.1, n2.2.1, n2.2.2, Or.inr (Or.inr ⟨rfl, ?_, ?_, ?_, ?_, r2.1, qt_n b st.1, ?_, ?_, hc, by omega, ?_⟩)⟩, fun v hv => ?_⟩
        · rw [n3]; rfl
        · rw [n3]; rfl
        · rw [n3]; rfl
        · rw [n3]; rfl
        · rw [n3]; rfl
        · rw [n3]; rfl
        · by_cases u : (r2.1.1 = 0 ↔ ln (qt_n b st.1) = 0)
          · exact u
          · rw [beq0_eq.2 u] at c7; cases c7
        · rw [n3] at hv; cases hv
      · cases h3
  · cases h4
end
