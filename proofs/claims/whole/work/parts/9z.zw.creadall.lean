/-! the class's reading is the spec's -/
section
variable {w : qcW} {b ln : Nat → Nat} {len c B sort : Nat} {I : qTI} {L : qTL} {D : qTD} {R : qTR} {st : qP} {K : qKs} {z : qZS} {x : qX}
theorem q_cond_of {s : qXS} (h : q_cond b ln qN x st = .inr s) : s.1.2 = x.2 := by
  unfold q_cond at h
  obtain ⟨r, h1, h2⟩ := qs_b_of h
  obtain ⟨h3, h4⟩ := qs_fit_of h2
  cases h4
  rfl
theorem q_main_of {s : qXS} (h : q_main b ln qN x st = .inr s) : s.1.1 = x.1 ∧ s.1.2.2 = x.2.2 := by
  unfold q_main at h
  obtain ⟨r, h1, h2⟩ := qs_b_of h
  obtain ⟨h3, h4⟩ := qs_fit_of h2
  cases h4
  exact ⟨rfl, rfl⟩
theorem q_where_of {s : qXS} (h : q_where b ln qN x st = .inr s) : s.1.2 = x.2 := by
  unfold q_where at h
  split at h
  · obtain ⟨st1, h1, h2⟩ := qs_b_of h
    exact q_cond_of h2
  · cases h; rfl
/-- where, or not; then g -/
theorem r_where {P : Nat × qXS → Unit → qTI → qTD → qTR → Prop} {E : Nat × Nat → qTI → qTR → Prop} {g : qXS → qR (Nat × qXS)} {f : qTI → qTL → qTD → qTR → qcO Unit} (hW : qc_WF w) (hb : qt_B b len) (hln : ∀ c, c < 10 → ln c ≤ 8) (h : rT b ln len sort (x, st) I D R) (hx : x.1 = none)
    (hok : ∀ s I1 D1 R1, q_where b ln qN x st = .inr s → rT b ln len sort s I1 D1 R1 → rU P E L (g s) I1 D1 R1 (f I1 L D1 R1)) (herr : ∀ e I1 D1 R1, rE 5000 e I1 R1 → eO (E e) I1 L D1 R1 (f I1 L D1 R1)) :
    rU P E L (qs_b (q_where b ln qN x st) g) I D R (qc_bd (fX2_took w I L D R 13) fun r33 I33 L33 D33 R33 => if r33 = true then (qc_bd (fX2_readCondition w I33 L33 D33 R33) fun r35 I35 L35 D35 R35 => f I35 L35 D35 R35) else (f I33 L33 D33 R33)) := by
  obtain ⟨K, hG, hK⟩ := id h
  have hG : rG b ln len st K (q_z sort x) I D R := hG
  by_cases y : qt_m b st.1 = 13
  · have e1 : q_where b ln qN x st = qs_b (qs_adv b st) fun st1 => q_cond b ln qN x st1 := by unfold q_where; rw [if_pos y]
    have hok' := hok
    rw [e1, qs_ba]
    refine rU_took hb hG (by decide) (by decide) y (fun st1 I1 D1 R1 hr1 g1 => ?_) (fun e I1 D1 R1 he => ?_)
    · rw [if_pos rfl]
      refine rU_bd (r_cond hW hb hln (⟨K, g1, hK⟩ : rT b ln len sort (x, st1) I1 D1 R1) hx) (fun s _ I2 D2 R2 hr2 h2 => ?_) (fun e _ I2 D2 R2 he => herr e I2 D2 R2 he)
      exact hok s I2 D2 R2 (by rw [e1, hr1, qs_bi]; exact hr2) h2
    · rw [if_pos rfl]
      exact eO_bd (eO_cond he) (fun _ I2 D2 R2 he => herr e I2 D2 R2 he)
  · have e1 : q_where b ln qN x st = .inr (x, st) := by unfold q_where; rw [if_neg y]
    rw [e1, qs_bi, r_took0 hG (by decide) y, qc_bds, if_neg (by decide)]
    exact hok (x, st) I D R e1 h
theorem q_so_5 {m : Nat} : (q_so m = 0 ↔ m = 5) ∧ (q_so m = 1 ↔ m = 9) ∧ (q_so m = 2 ↔ m = 15) ∧ q_so m ≤ 3 := by
  unfold q_so
  repeat' split
  all_goals omega
theorem r_find (hW : qc_WF w) (hb : qt_B b len) (hln : ∀ c, c < 10 → ln c ≤ 8) (h : rT b ln len 0 (x, st) I D R) (hx0 : x.1 = none) (hx1 : x.2.1 = none) : rU (rP b ln len) (rE 6000) L (qs_b (q_find b ln qN x st) fun s => q_end b 0 s) I D R (qc_bd (fX2_readCondition w I L D R) fun r36 I36 L36 D36 R36 => qc_bd (fX2_took w I36 L36 D36 R36 6) fun r37 I37 L37 D37 R37 => if r37 = true then (qc_bd (fX2_readOrder w I37 L37 D37 R37) fun r39 I39 L39 D39 R39 => fX2_read_b43 w I39 L39 D39 R39) else (fX2_read_b43 w I37 L37 D37 R37)) := by
  unfold q_find
  rw [qs_ba]
  refine rU_bd (r_cond hW hb hln h hx0) (fun s _ I1 D1 R1 hr1 h1 => ?_) (fun e _ I1 D1 R1 he => ?_)
  · have hs1 : s.1.2.1 = none := by rw [q_cond_of hr1]; exact hx1
    obtain ⟨K, hG, hK⟩ := id h1
    rw [qs_ba]
    unfold q_order
    by_cases y : qt_m b s.2.1 = 6
    · rw [if_pos y, qs_ba]
      refine rU_took hb hG (by decide) (by decide) y (fun st1 I2 D2 R2 hr2 g2 => ?_) (fun e I2 D2 R2 he => ?_)
      · rw [if_pos rfl]
        refine rU_bd (r_order hW hb hln (⟨K, g2, hK⟩ : rT b ln len 0 (s.1, st1) I2 D2 R2) hs1) (fun s2 _ I3 D3 R3 hr3 h3 => r_43 hW hb h3) (fun e _ I3 D3 R3 he => eO_eq he (by decide) (eO_43 hW he))
      · rw [if_pos rfl]
        exact eO_bd (eO_order hW (by decide) he) (fun _ I3 D3 R3 he => eO_eq he (by decide) (eO_43 hW he))
    · rw [if_neg y, qs_bi, r_took0 hG (by decide) y, qc_bds, if_neg (by decide)]
      exact r_43 hW hb h1
  · rw [eO_took he (by decide) (by decide), qc_bds, if_neg (by decide)]
    exact eO_eq he (by decide) (eO_43 hW he)
theorem q_fold_1 : q_fold b ln qN x st = qs_b (if q_hw (qt_m b st.1) = 5 then .inl (2, qt_from b st.1) else qs_b (qs_adv b st) fun st1 => (if q_hw (qt_m b st.1) = 0 then .inr (q_how x 0, st1) else q_main b ln qN (q_how x (q_hw (qt_m b st.1))) st1)) fun s => qs_b (q_where b ln qN s.1 s.2) fun s => q_by b ln qN s.1 s.2 := by
  unfold q_fold
  split
  · rfl
  · rw [qs_ba]
theorem r_fold (hW : qc_WF w) (hb : qt_B b len) (hln : ∀ c, c < 10 → ln c ≤ 8) (h : rT b ln len 1 (x, st) I D R) (hx0 : x.1 = none) (hx1 : x.2.1 = none) (hx2 : x.2.2.1 = none) : rU (rP b ln len) (rE 6000) L (qs_b (q_fold b ln qN x st) fun s => q_end b 1 s) I D R (qc_bd (fX2_readHow w I L D R) fun r32 I32 L32 D32 R32 => qc_bd (fX2_took w I32 L32 D32 R32 13) fun r33 I33 L33 D33 R33 => if r33 = true then (qc_bd (fX2_readCondition w I33 L33 D33 R33) fun r35 I35 L35 D35 R35 => fX2_read_b102 w I35 L35 D35 R35) else (fX2_read_b102 w I33 L33 D33 R33)) := by
  rw [q_fold_1, qs_ba]
  refine rU_bd (r_how hW hb hln h hx1) (fun s _ I1 D1 R1 hr1 h1 => ?_) (fun e _ I1 D1 R1 he => ?_)
  · have hs : s.1.1 = none ∧ s.1.2.2.1 = none := by
      split at hr1
      · cases hr1
      · obtain ⟨st1, h2, h3⟩ := qs_b_of hr1
        split at h3
        · cases h3
          exact ⟨hx0, hx2⟩
        · obtain ⟨h4, h5⟩ := q_main_of h3
          rw [h4, h5]
          exact ⟨hx0, hx2⟩
    rw [qs_ba]
    refine r_where hW hb hln (x := s.1) (st := s.2) h1 hs.1 (fun s2 I2 D2 R2 hr2 h2 => ?_) (fun e I2 D2 R2 he => eO_eq he (by decide) (eO_102 hW he))
    exact r_102 hW hb hln h2 (by rw [q_where_of hr2]; exact hs.2)
  · rw [eO_took he (by decide) (by decide), qc_bds, if_neg (by decide)]
    exact eO_eq he (by decide) (eO_102 hW he)
theorem r_set (hW : qc_WF w) (hb : qt_B b len) (hln : ∀ c, c < 10 → ln c ≤ 8) (h : rT b ln len 2 (x, st) I D R) (hx0 : x.1 = none) (hx1 : x.2.1 = none) : rU (rP b ln len) (rE 6000) L (qs_b (q_set b ln qN x st) fun s => q_end b 2 s) I D R (qc_bd (fX2_readSet w I L D R) fun r28 I28 L28 D28 R28 => qc_bd (fX2_took w I28 L28 D28 R28 13) fun r29 I29 L29 D29 R29 => if r29 = true then (qc_bd (fX2_readCondition w I29 L29 D29 R29) fun r31 I31 L31 D31 R31 => fX2_read_b178 w I31 L31 D31 R31) else (fX2_read_b178 w I29 L29 D29 R29)) := by
  rw [q_set_1, qs_ba]
  refine rU_bd (r_set1 hW hb hln h hx1) (fun s _ I1 D1 R1 hr1 h1 => ?_) (fun e _ I1 D1 R1 he => ?_)
  · have hs : s.1.1 = none := by
      unfold q_set1 at hr1
      split at hr1
      · split at hr1
        · cases hr1
        · obtain ⟨st1, h2, h3⟩ := qs_b_of hr1
          obtain ⟨st2, h4, h5⟩ := qs_b_of h3
          obtain ⟨r, h6, h7⟩ := qs_b_of h5
          obtain ⟨h8, h9⟩ := qs_fit_of h7
          cases h9
          exact hx0
      · cases hr1
    exact r_where hW hb hln (x := s.1) (st := s.2) h1 hs (fun s2 I2 D2 R2 hr2 h2 => r_178 hW h2) (fun e I2 D2 R2 he => eO_eq he (by decide) (eO_178 hW he))
  · rw [eO_took he (by decide) (by decide), qc_bds, if_neg (by decide)]
    exact eO_eq he (by decide) (eO_178 hW he)
theorem cx_read (hW : qc_WF w) (hb : qt_B b len) (hln : ∀ c, c < 10 → ln c ≤ 8) (hT : tpX b len I) (hC : clX ln I) (hR : qc_FR R) : rU (rP b ln len) (rE 6000) L (q_read b ln qN) I D R (fX2_read w I L D R) := by
  obtain ⟨I1, D1, R1, a1, a2, a3, a4⟩ := r_begin (w := w) (L := L) (D := D) hW hb hT hC hR
  unfold fX2_read q_read
  rw [a1, qc_bds]
  refine rU_tr a2 ?_
  by_cases h63 : qt_m b 0 = 63
  · have he := a4 h63
    rw [if_pos h63, eO_m he, show qc_l62 4 = true from rfl, qc_gdt]
    have he7 := rE_R he (j := 7) (by decide) 4
    refine rU_e (eO_r (j := 7) (Or.inl rfl) (v := 4) ?_)
    rw [eO_took he7 (by decide) (by decide), qc_bds, if_neg (by decide), eO_took he7 (by decide) (by decide), qc_bds, if_neg (by decide), eO_took he7 (by decide) (by decide), qc_bds, if_neg (by decide), eO_misplaced he7, qc_bds]
    exact eO_eq he7 (by decide) (eO_178 hW he7)
  · rw [if_neg h63]
    have hG := a3 h63
    have hm := rG_m hG
    rw [hm.2, qc_gdt, hm.1]
    have g7 := rG_7 hG (qt_m b 0)
    refine rU_tr (rF_r (k := 7) (Or.inl rfl) (qt_m b 0)) ?_
    obtain ⟨so1, so2, so3, so4⟩ := q_so_5 (m := qt_m b 0)
    have hx : ∀ sort, q_fm sort = qt_m b 0 → q_z sort q_x0 = (nI 2, -1, 0, 16, qt_m b 0, 10) := fun sort h => by
      unfold q_z
      rw [h]
      rfl
    have hk : ∀ sort, rK ln sort q_x0 rK0 := fun sort => ⟨⟨0, fun _ => rfl, rfl⟩, ⟨0, fun _ => rfl, rfl⟩, ⟨0, fun _ => rfl, rfl⟩⟩
    by_cases y5 : qt_m b 0 = 5
    · have e0 : q_so (qt_m b 0) = 0 := so1.mpr y5
      rw [if_neg (by rw [e0]; decide)]
      refine rU_took hb g7 (by decide) (by decide) y5 (fun st1 I2 D2 R2 hr2 g2 => ?_) (fun e I2 D2 R2 he => ?_)
      · rw [if_pos rfl, e0]
        have h2 : rT b ln len 0 (q_x0, st1) I2 D2 R2 := ⟨rK0, by show rG b ln len st1 rK0 (q_z 0 q_x0) I2 D2 R2; rw [hx 0 y5.symm]; exact g2, hk 0⟩
        exact r_find hW hb hln h2 rfl rfl
      · rw [if_pos rfl]
        refine eO_bd (eO_cond he) (fun _ I3 D3 R3 he => ?_)
        rw [eO_took he (by decide) (by decide), qc_bds, if_neg (by decide)]
        exact eO_eq he (by decide) (eO_43 hW he)
    · rw [r_took0 g7 (by decide) y5, qc_bds, if_neg (show ¬ false = true by decide)]
      by_cases y9 : qt_m b 0 = 9
      · have e0 : q_so (qt_m b 0) = 1 := so2.mpr y9
        rw [if_neg (by rw [e0]; decide)]
        refine rU_took hb g7 (by decide) (by decide) y9 (fun st1 I2 D2 R2 hr2 g2 => ?_) (fun e I2 D2 R2 he => ?_)
        · rw [if_pos rfl, e0]
          have h2 : rT b ln len 1 (q_x0, st1) I2 D2 R2 := ⟨rK0, by show rG b ln len st1 rK0 (q_z 1 q_x0) I2 D2 R2; rw [hx 1 y9.symm]; exact g2, hk 1⟩
          exact r_fold hW hb hln h2 rfl rfl rfl
        · rw [if_pos rfl]
          refine eO_bd (eO_how hW (by decide) he) (fun _ I3 D3 R3 he => ?_)
          rw [eO_took he (by decide) (by decide), qc_bds, if_neg (by decide)]
          exact eO_eq he (by decide) (eO_102 hW he)
      · rw [r_took0 g7 (by decide) y9, qc_bds, if_neg (show ¬ false = true by decide)]
        by_cases y15 : qt_m b 0 = 15
        · have e0 : q_so (qt_m b 0) = 2 := so3.mpr y15
          rw [if_neg (by rw [e0]; decide)]
          refine rU_took hb g7 (by decide) (by decide) y15 (fun st1 I2 D2 R2 hr2 g2 => ?_) (fun e I2 D2 R2 he => ?_)
          · rw [if_pos rfl, e0]
            have h2 : rT b ln len 2 (q_x0, st1) I2 D2 R2 := ⟨rK0, by show rG b ln len st1 rK0 (q_z 2 q_x0) I2 D2 R2; rw [hx 2 y15.symm]; exact g2, hk 2⟩
            exact r_set hW hb hln h2 rfl rfl
          · rw [if_pos rfl]
            refine eO_bd (eO_set hW (by decide) he) (fun _ I3 D3 R3 he => ?_)
            rw [eO_took he (by decide) (by decide), qc_bds, if_neg (by decide)]
            exact eO_eq he (by decide) (eO_178 hW he)
        · rw [r_took0 g7 (by decide) y15, qc_bds, if_neg (show ¬ false = true by decide), if_pos (by omega)]
          obtain ⟨I', R', b1, b2, b3, -⟩ := r_misplaced (w := w) (L := L) g7
          rw [b1, qc_bds]
          exact rU_tr b2 (rU_e (eO_eq b3 (by decide) (eO_178 hW b3)))
end
