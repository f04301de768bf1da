/-! the reference reads as the spec does: all tags -/
section
variable {w : qcW} {I I0 : qTI} {L L0 : qTL} {D D0 : qTD} {R : qTR} {b ln : Nat → Nat} {len q o N n : Nat} {τ : Option (Nat × Nat)} {st : qP} {J : qJs} {P : List Nat} {F : qFs} {ds : List qDen} {x1 x3 : Int32} {f : Nat × Nat × Int32 × Nat × Int32}
/-- a column as it stands -/
theorem mr_col (hS : mS b ln len q I0) (h : mR b q I0 L0 D0 τ st o J P F ds I L D) {c : Nat} (hc : c < 10) : (I 292 c = -1 ∧ ln c = 8) ∨ ∃ i, i < 11 ∧ I 292 c = nI i ∧ I 293 i = nI (ln c) ∧ ln c < 8 := by
  rw [h.1.1 292 c (by decide) (by omega)]
  rcases hS.2.1 c hc with z | ⟨i, z1, z2, z3, z4⟩
  · exact Or.inl z
  · exact Or.inr ⟨i, z1, z2, by rw [h.1.1 293 i (by decide) (by omega)]; exact z3, z4⟩
theorem mR_15p {e : Nat × Nat} (h : mR b q I0 L0 D0 (some e) st o J P F ds I L D) : ¬ I 291 15 ≤ 0 := fun y => by
  have h2 := h.2.1
  have a1 := h2.2.2.1
  have a2 := h2.2.1
  rw [h2.1] at y
  have := (qi_le (b := 0) (by omega) (by decide)).mp y
  omega
/-- tag 6 -/
theorem mA_cell (hb : qt_B b len) (hS : mS b ln len q I0) (hln : ∀ c, c < 10 → ln c ≤ 8) (hA : mA w b ln len q I0 L0 D0 R x1 n) (h : mR b q I0 L0 D0 none st o J P F ds I L D) (hG : mG b len st o J P F ds N) (h3 : qt_m b st.1 = 3) : mV b len q I0 L0 D0 R (K_o w R x1) o J P F ds (qs_p b ln (n + 1) 6 0 0 o (d_lf 0 []) st) (fX12_expression_l27 w N (I, L, D, R, x1, 1, x3)) := by
  obtain ⟨g1, g2, g3, g4, g5, g6⟩ := mG_le hb hG
  have hts := mr_ts (w := w) (R := R) hb hS h (mG_st hG)
  have hc := (qt_col hb h3).1
  have hm63 := (mG_st hG).2
  obtain ⟨N, rfl⟩ : ∃ k, N = k + 2 := ⟨N - 2, by omega⟩
  have eby := bg_by (b := b) (st := st) (x3 := x3) hts (by omega) (by omega) h.2.1.2.2.2.1 hm63
  rw [if_neg (by omega), if_neg (by omega), if_pos h3] at eby
  change mV b len q I0 L0 D0 R (K_o w R x1) o J P F ds (qs_cell b ln (qs_p b ln n) o st) _
  unfold qs_cell
  have e13 := h.2.1.2.2.2.2.2.1 (Or.inr h3)
  have ecol : fX12_column_ w I L D R = if ln (qt_n b st.1) = 8 then (qc_bd (fX12_fail w I L D R (5 : Int32) (nI (qt_from b st.1))) fun r5 I5 L5 D5 R5 => fX12_column__b31 w I5 L5 D5 R5 (nI (qt_n b st.1))) else (fX12_column__b31 w I L D R (nI (qt_n b st.1))) := by
    unfold fX12_column_
    rw [if_pos (mR_15 h), e13, qi_inbN hc (by decide), qc_gdt, nI_clamp (by omega), mR_10 h]
    rcases mr_col hS h hc with ⟨z1, z2⟩ | ⟨i, z1, z2, z3, z4⟩
    · rw [if_pos z1, if_pos z2]
    · rw [if_neg (by rw [z2]; exact qi_nI_m1 (by omega)), if_neg (by omega)]
  unfold fX12_column__b31 at ecol
  unfold fX12_beginsCell at eby
  by_cases z : ln (qt_n b st.1) = 8
  · rw [if_pos z]
    obtain ⟨I1, k1, k2⟩ := mr_fail (w := w) (R := R) h (k := 5) (j := qt_from b st.1) (by decide)
    have k1 : fX12_fail w I L D R 5 (nI (qt_from b st.1)) = some ((), I1, L, D, R) := k1
    rw [if_pos z, k1, qc_bds, mr_nextE k2, qc_bds] at ecol
    have h2 := k2.2.1
    rw [ecol, qc_bds, if_neg (mR_15p k2), qc_bds] at eby
    rw [bg_t (mR_15 h) eby (k2.2.2.2.2.2.1.1.trans h.2.2.2.2.2.1.1.symm)]
    exact mV_e k2 (mE_27 k2 _ _)
  · rw [if_neg z]
    have hl8 : ln (qt_n b st.1) < 8 := by have := hln _ hc; omega
    obtain ⟨I1, L1, D1, k1, k2, k3⟩ := mr_next (w := w) (R := R) hb hS h (mG_st hG)
    rw [if_neg z, k1, qc_bds] at ecol
    rw [ecol, qc_bds] at eby
    cases ha : qs_adv b st with
    | inl e =>
      have m1 := k3 e ha
      have h2 := m1.2.1
      rw [if_neg (mR_15p m1), qc_bds] at eby
      rw [bg_t (mR_15 h) eby (m1.2.2.2.2.2.1.1.trans h.2.2.2.2.2.1.1.symm)]
      exact mV_e m1 (mE_27 m1 _ _)
    | inr st1 =>
      have m1 := k2 st1 ha
      obtain ⟨q1, q2, q3⟩ := qs_G_adv hb hG.1 (by omega) ha
      have hts1 := mr_ts (w := w) (R := R) hb hS m1 ⟨q1.1, q1.2.1⟩
      obtain ⟨i, i1, i2, i3, i4⟩ := (mr_col hS m1 hc).resolve_left (fun u => z u.2)
      rw [if_pos (by rw [mR_15 m1]; decide), qi_inbN hc (by decide), qc_gdt, nI_clamp (show qt_n b st.1 < 2 ^ 31 by omega), i2, qi_inbN i1 (by decide), qc_gdt, nI_clamp (show i < 2 ^ 31 by omega), i3, ms_56 hts1, qc_bds] at eby
      obtain ⟨e1, e2, e3, e4, e5, e6, e7⟩ := hG
      show mV b len q I0 L0 D0 R (K_o w R x1) o J P F ds (if qt_m b st1.1 = 56 then _ else _) _
      by_cases y : qt_m b st1.1 = 56
      · rw [if_pos y]
        rw [if_pos (decide_eq_true y)] at eby
        obtain ⟨I2, a1, a2, a3⟩ := mr_opens (w := w) (R := R) m1 e2
        rw [a1, qc_bds] at eby
        cases ho : qs_op1 b o st1 with
        | inl e =>
          have m2 := a3 e ho
          obtain ⟨I3, j1, j2⟩ := mr_frame (w := w) (R := R) m2 (s := 2) (a := qt_n b st.1) (by decide) (by omega) (by omega) (I2 291 10) (nI (ln (qt_n b st.1)))
          have j1 : fX12_frame w I2 L1 D1 R 2 (I2 291 10) (nI (qt_n b st.1)) (nI (ln (qt_n b st.1))) = some ((), I3, L1, D1, R) := j1
          rw [j1, qc_bds, mr_nextE j2, qc_bds, qc_bds] at eby
          rw [bg_f (mR_15 h) eby (lt_F h.2.2.2.2.2.1.1 j2.2.2.2.2.2.1.1 (by rw [List.length_cons]; omega) (by rw [List.length_cons]; omega))]
          exact mV_e j2 (mE_27 j2 _ _)
        | inr st' =>
          obtain ⟨rfl, m2⟩ := a2 st' ho
          have ho12 := (qs_op1_of ho).2
          obtain ⟨I3, j1, j2⟩ := mr_frame (w := w) (R := R) m2 (s := 2) (a := qt_n b st.1) (by decide) (by omega) (by omega) (I2 291 10) (nI (ln (qt_n b st.1)))
          rw [mR_10 m2] at j1 j2
          have j1 : fX12_frame w I2 L1 D1 R 2 (nI (qt_from b st'.1)) (nI (qt_n b st.1)) (nI (ln (qt_n b st.1))) = some ((), I3, L1, D1, R) := j1
          obtain ⟨I4, L4, D4, k4, k5, k6⟩ := mr_next (w := w) (R := R) hb hS j2 ⟨q1.1, q1.2.1⟩
          rw [mR_10 m2, j1, qc_bds, k4, qc_bds, qc_bds] at eby
          show mV b len q I0 L0 D0 R (K_o w R x1) o J P F ds (qs_b (qs_adv b st') _) _
          cases hb2 : qs_adv b st' with
          | inl e =>
            have m3 := k6 e hb2
            rw [bg_f (mR_15 h) eby (lt_F h.2.2.2.2.2.1.1 m3.2.2.2.2.2.1.1 (by rw [List.length_cons]; omega) (by rw [List.length_cons]; omega))]
            exact mV_e m3 (mE_27 m3 _ _)
          | inr st3 =>
            have m3 := k5 st3 hb2
            obtain ⟨r1, r2, r3⟩ := qs_G_adv hb q1 (by omega) hb2
            rw [bg_f (mR_15 h) eby (lt_F h.2.2.2.2.2.1.1 m3.2.2.2.2.2.1.1 (by rw [List.length_cons]; omega) (by rw [List.length_cons]; omega))]
            have hG2 : mG b len st3 (o + 1) J P ((2, J.length, nI (qt_from b st'.1), qt_n b st.1, nI (ln (qt_n b st.1))) :: F) ds (N + 1) := ⟨r1, by omega, by rw [List.length_cons]; omega, by omega, by rw [List.length_cons]; omega, by rw [List.length_cons]; omega, by omega⟩
            have hv := hA.1 (o + 1) st3 J P _ ds (N + 1) I4 L4 D4 m3 hG2 ⟨_, F, rfl, rfl⟩ (Or.inl (by rw [List.length_cons]; omega))
            refine mV_b hv (fun s N' n' x t I5 L5 D5 hr m4 hx hG4 hn4 => ?_)
            have hQ := (qs_good hb hln n 0 0 0 (o + 1) _ st3 s hr r1).1 (by decide) (by decide) ⟨fun u => (by omega), fun u => (by omega)⟩
            obtain ⟨d1, d2, d3, d4⟩ := hQ
            have := (mG_le hb hG4).2.2.2.2.2
            exact mV_ds (me_index hb hS m4 hG4 (by rw [List.length_cons] at hn4; omega) hl8 hc hx d2 (by omega) s.2 e6 e5)
      · rw [if_neg y]
        rw [if_neg (fun u => y (of_decide_eq_true u)), mq_kl hl8, qc_bds] at eby
        obtain ⟨I2, I3, n1, n2, n3⟩ := mr_nl (w := w) (R := R) m1 (d := d_lf (qw_kd (ln (qt_n b st.1))) [(3, 0), (10 + ln (qt_n b st.1), qt_n b st.1)]) (nr := st.2.length) (x1 := 4) (x2 := -1) (x3 := nI (ln (qt_n b st.1))) (x4 := 0) (x5 := nI (qt_n b st.1)) (x6 := nI (qw_kd (ln (qt_n b st.1)))) (by omega) (by omega) (D_lf (qw_kd_le hl8) ⟨show 0 < 2 by decide, show 2 ≤ 6 by decide⟩ (T_app T_obj (T_fetch hl8 hc) (Or.inr (Nat.le_of_ble_eq_true rfl)))) (show 1 ≤ 400 by decide) rfl (fun I' e => rfl) (fun T t1 t2 t3 t4 t5 t6 => ⟨t6, Or.inr (Or.inr (Or.inr (Or.inl ⟨ln (qt_n b st.1), qt_n b st.1, t1, t2, t3, t5, hl8, rfl⟩)))⟩)
        rw [n1, qc_bds, n2, qc_bds, qc_bds] at eby
        rw [bg_t (mR_15 h) eby (n3.2.2.2.2.2.1.1.trans h.2.2.2.2.2.1.1.symm), mOu_of]
        refine mV_s (s := (_, st1)) (t := [d_lf (qw_kd (ln (qt_n b st.1))) [(3, 0), (10 + ln (qt_n b st.1), qt_n b st.1)]]) (x := ds.length) n3 ?_ ⟨q1, e2, ?_, ?_, e5, e6, ?_⟩ (n := qcF) (N := N) ?_ rfl
        · rw [List.getElem?_append_right (Nat.le_refl _), Nat.sub_self]; rfl
        · rw [List.length_append, List.length_singleton]; show _ ≤ st1.1 + 1; omega
        · rw [List.length_cons]; show _ ≤ st1.1; omega
        · show 500 ≤ N + 1 + st1.1; omega
        · unfold qcF; omega
/-- tag 7 -/
theorem mA_func (hb : qt_B b len) (hS : mS b ln len q I0) (hln : ∀ c, c < 10 → ln c ≤ 8) (hA : mA w b ln len q I0 L0 D0 R x1 n) (h : mR b q I0 L0 D0 none st o J P F ds I L D) (hG : mG b len st o J P F ds N) (h19 : qt_m b st.1 = 19 → x3 = 0) (hno : (qt_m b st.1 ≠ 49 ∧ qt_m b st.1 ≠ 53) ∧ ¬ (1 ≤ qt_m b st.1 ∧ qt_m b st.1 ≤ 3) ∧ ¬ (16 ≤ qt_m b st.1 ∧ qt_m b st.1 ≤ 18) ∧ qt_m b st.1 ≠ 54) : mV b len q I0 L0 D0 R (K_o w R x1) o J P F ds (qs_p b ln (n + 1) 7 0 0 o (d_lf 0 []) st) (fX12_expression_l27 w N (I, L, D, R, x1, 1, x3)) := by
  obtain ⟨g1, g2, g3, g4, g5, g6⟩ := mG_le hb hG
  have hts := mr_ts (w := w) (R := R) hb hS h (mG_st hG)
  have hm63 := (mG_st hG).2
  have hm := qt_m_lt b st.1
  obtain ⟨N, rfl⟩ : ∃ k, N = k + 2 := ⟨N - 2, by omega⟩
  have eby := bg_by (b := b) (st := st) (x3 := x3) hts h19 hno.1 h.2.1.2.2.2.1 hm63
  rw [if_neg (by omega), if_neg (by omega), if_neg (by omega)] at eby
  change mV b len q I0 L0 D0 R (K_o w R x1) o J P F ds (qs_func b (qs_p b ln n) o st) _
  unfold qs_func
  by_cases c4 : 4 ≤ qt_m b st.1 ∧ qt_m b st.1 ≤ 35
  · rw [if_pos c4] at eby
    unfold fX12_beginsWord at eby
    simp only [mw_17 hts, qc_bds, mw_16 hts, mw_18 hts, mq_fun hts] at eby
    rw [decide_eq_false (show ¬ qt_m b st.1 = 16 by omega), decide_eq_false (show ¬ qt_m b st.1 = 17 by omega), decide_eq_false (show ¬ qt_m b st.1 = 18 by omega), if_neg (by decide), if_neg (by decide), if_neg (by decide)] at eby
    by_cases c22 : 22 ≤ qt_m b st.1 ∧ qt_m b st.1 ≤ 35
    · rw [if_pos c22] at eby ⊢
      rw [if_neg (qi_nI_m1 (by omega))] at eby
      obtain ⟨I1, L1, D1, k1, k2, k3⟩ := mr_next (w := w) (R := R) hb hS h (mG_st hG)
      rw [k1, qc_bds] at eby
      -- an error: to the end
      have bad : ∀ {e st'} {I2 : qTI}, mR b q I0 L0 D0 (some e) st' o J P F ds I2 L1 D1 → ∃ I3 : qTI, fX12_beginsWord_b127 w I2 L1 D1 R (nI (qt_m b st.1 - 22)) = some (false, I3, L1, D1, R) ∧ (∃ o' F', mR b q I0 L0 D0 (some e) st' o' J P F' ds I3 L1 D1 ∧ F.length < F'.length ∧ F'.length < 1000) := fun {e st'} {I2} m2 => by
        obtain ⟨I3, a1, a2⟩ := mr_opensE (w := w) (R := R) m2
        obtain ⟨I4, j1, j2⟩ := mr_frame (w := w) (R := R) a2 (s := 3) (a := qt_m b st.1 - 22) (by decide) (by omega) (by omega) (I3 291 10) (-1)
        have j1 : fX12_frame w I3 L1 D1 R 3 (I3 291 10) (nI (qt_m b st.1 - 22)) (-1) = some ((), I4, L1, D1, R) := j1
        refine ⟨I4, ?_, o + 1, _, j2, by rw [List.length_cons]; omega, by rw [List.length_cons]; omega⟩
        unfold fX12_beginsWord_b127
        rw [a1, qc_bds, j1, qc_bds, mr_nextE j2, qc_bds]
      cases ha : qs_adv b st with
      | inl e =>
        have m1 := k3 e ha
        have hts1 := mr_tsE (w := w) (R := R) m1
        rw [ms_54 hts1, qc_bds, if_neg (by decide), mr_failE m1, qc_bds] at eby
        obtain ⟨I3, b1, o', F', b2, b3, b4⟩ := bad m1
        rw [b1, qc_bds] at eby
        rw [bg_f (mR_15 h) eby (lt_F h.2.2.2.2.2.1.1 b2.2.2.2.2.2.1.1 b3 b4)]
        exact mV_e b2 (mE_27 b2 _ _)
      | inr st1 =>
        have m1 := k2 st1 ha
        obtain ⟨q1, q2, q3⟩ := qs_G_adv hb hG.1 (by omega) ha
        have hts1 := mr_ts (w := w) (R := R) hb hS m1 ⟨q1.1, q1.2.1⟩
        rw [ms_54 hts1, qc_bds] at eby
        show mV b len q I0 L0 D0 R (K_o w R x1) o J P F ds (if qt_m b st1.1 = 54 then _ else _) _
        by_cases y : qt_m b st1.1 = 54
        · rw [if_pos y]
          rw [if_pos (decide_eq_true y)] at eby
          unfold fX12_beginsWord_b127 at eby
          obtain ⟨e1, e2, e3, e4, e5, e6, e7⟩ := hG
          obtain ⟨I2, a1, a2, a3⟩ := mr_opens (w := w) (R := R) m1 e2
          rw [a1, qc_bds] at eby
          cases ho : qs_op1 b o st1 with
          | inl e =>
            have m2 := a3 e ho
            obtain ⟨I3, j1, j2⟩ := mr_frame (w := w) (R := R) m2 (s := 3) (a := qt_m b st.1 - 22) (by decide) (by omega) (by omega) (I2 291 10) (-1)
            have j1 : fX12_frame w I2 L1 D1 R 3 (I2 291 10) (nI (qt_m b st.1 - 22)) (-1) = some ((), I3, L1, D1, R) := j1
            rw [j1, qc_bds, mr_nextE j2, qc_bds, qc_bds] at eby
            rw [bg_f (mR_15 h) eby (lt_F h.2.2.2.2.2.1.1 j2.2.2.2.2.2.1.1 (by rw [List.length_cons]; omega) (by rw [List.length_cons]; omega))]
            exact mV_e j2 (mE_27 j2 _ _)
          | inr st' =>
            obtain ⟨rfl, m2⟩ := a2 st' ho
            have ho12 := (qs_op1_of ho).2
            obtain ⟨I3, j1, j2⟩ := mr_frame (w := w) (R := R) m2 (s := 3) (a := qt_m b st.1 - 22) (by decide) (by omega) (by omega) (I2 291 10) (-1)
            rw [mR_10 m2] at j1 j2
            have j1 : fX12_frame w I2 L1 D1 R 3 (nI (qt_from b st'.1)) (nI (qt_m b st.1 - 22)) (-1) = some ((), I3, L1, D1, R) := j1
            obtain ⟨I4, L4, D4, k4, k5, k6⟩ := mr_next (w := w) (R := R) hb hS j2 ⟨q1.1, q1.2.1⟩
            rw [mR_10 m2, j1, qc_bds, k4, qc_bds, qc_bds] at eby
            show mV b len q I0 L0 D0 R (K_o w R x1) o J P F ds (qs_b (qs_adv b st') _) _
            cases hb2 : qs_adv b st' with
            | inl e =>
              have m3 := k6 e hb2
              rw [bg_f (mR_15 h) eby (lt_F h.2.2.2.2.2.1.1 m3.2.2.2.2.2.1.1 (by rw [List.length_cons]; omega) (by rw [List.length_cons]; omega))]
              exact mV_e m3 (mE_27 m3 _ _)
            | inr st3 =>
              have m3 := k5 st3 hb2
              obtain ⟨r1, r2, r3⟩ := qs_G_adv hb q1 (by omega) hb2
              rw [bg_f (mR_15 h) eby (lt_F h.2.2.2.2.2.1.1 m3.2.2.2.2.2.1.1 (by rw [List.length_cons]; omega) (by rw [List.length_cons]; omega))]
              have hG2 : mG b len st3 (o + 1) J P ((3, J.length, nI (qt_from b st'.1), qt_m b st.1 - 22, -1) :: F) ds (N + 1) := ⟨r1, by omega, by rw [List.length_cons]; omega, by omega, by rw [List.length_cons]; omega, by rw [List.length_cons]; omega, by omega⟩
              have hv := hA.1 (o + 1) st3 J P _ ds (N + 1) I4 L4 D4 m3 hG2 ⟨_, F, rfl, rfl⟩ (Or.inl (by rw [List.length_cons]; omega))
              refine mV_b hv (fun s N' n' x t I5 L5 D5 hr m4 hx hG4 hn4 => ?_)
              obtain ⟨d1, d2, d3, d4⟩ := (qs_good hb hln n 0 0 0 (o + 1) _ st3 s hr r1).1 (by decide) (by decide) ⟨fun u => (by omega), fun u => (by omega)⟩
              have hle4 := (mG_le hb hG4).2.2.2.2.2
              rw [List.length_cons] at hn4
              by_cases c2 : qt_m b st.1 = 27 ∨ qt_m b st.1 = 28
              · rw [if_pos c2]
                obtain ⟨I6, L6, D6, w1, w2⟩ := me_comma (w := w) (R := R) (x1 := x1) (n' := n') hb hS m4 hG4 e6 (by omega) c2 s.2
                cases hx2 : qs_ex b 58 s.2 with
                | inl e =>
                  obtain ⟨⟨st', m5⟩, w3⟩ := w2 e hx2
                  exact mV_e m5 w3
                | inr st4 =>
                  obtain ⟨m5, w3⟩ := w1 st4 hx2
                  obtain ⟨s1, s2, s3⟩ := qs_ex_n (by decide) hb hG4.1 hx2
                  rw [w3]
                  have hG5 : mG b len st4 (o + 1) J P ((3, J.length, nI (qt_from b st'.1), qt_m b st.1 - 22, nI x) :: F) (ds ++ t) N' := by
                    obtain ⟨f1, f2, f3, f4, f5, f6, f7⟩ := hG4
                    rw [List.length_cons] at f3 f4 f5
                    exact ⟨s1, by omega, by rw [List.length_cons]; omega, by omega, by rw [List.length_cons]; omega, by rw [List.length_cons]; omega, by omega⟩
                  have hv2 := hA.1 (o + 1) st4 J P _ (ds ++ t) N' I6 L6 D6 m5 hG5 ⟨_, F, rfl, rfl⟩ (Or.inl (by rw [List.length_cons]; omega))
                  refine mV_ds (t0 := t) (mV_b hv2 (fun s' N2 n2 x' t' I7 L7 D7 hr2 m6 hx6 hG6 hn6 => ?_))
                  obtain ⟨p1, p2, p3, p4⟩ := (qs_good hb hln n 0 0 0 (o + 1) _ st4 s' hr2 s1).1 (by decide) (by decide) ⟨fun u => (by omega), fun u => (by omega)⟩
                  have hle6 := (mG_le hb hG6).2.2.2.2.2
                  rw [List.length_cons] at hn6
                  have s3l : st4.2.length = s.2.2.length := by rw [s3]
                  have hsz : (qs_fn2 (qt_m b st.1) s.1 s'.1).2.2.1 = s.1.2.2.1 + s'.1.2.2.1 + 1 := rfl
                  exact mV_ds (me_fn hb hS m6 hG6 (by omega) c22 (ds_up hx) hx6 (Or.inr ⟨c2, rfl⟩) (by rw [if_pos c2]) (fun u v => D_fn2 c2 (qs_Q_up hb p1 d2 (by omega)) p2 u v) (by rw [hsz]; omega) s'.2 e6 e5)
              · rw [if_neg c2]
                have e := me_fn (w := w) (R := R) (x1 := x1) (dd := qs_fn (qt_m b st.1) s.1) hb hS m4 hG4 (by omega) c22 hx hx (Or.inl ⟨c2, rfl, rfl⟩) (by rw [if_neg c2]) (fun u v => D_fn c22 (by omega) d2 u) (by rw [fn_sz]; omega) s.2 e6 e5
                rw [Bool.and_self] at e
                exact mV_ds e
        · rw [if_neg y]
          obtain ⟨I2, f1, f2⟩ := mr_fail (w := w) (R := R) m1 (k := 2) (j := qt_from b st1.1) (by decide)
          have f1 : fX12_fail w I1 L1 D1 R 2 (nI (qt_from b st1.1)) = some ((), I2, L1, D1, R) := f1
          obtain ⟨I3, b1, o', F', b2, b3, b4⟩ := bad f2
          rw [if_neg (fun u => y (of_decide_eq_true u)), mR_10 m1, f1, qc_bds, b1, qc_bds] at eby
          rw [bg_f (mR_15 h) eby (lt_F h.2.2.2.2.2.1.1 b2.2.2.2.2.2.1.1 b3 b4)]
          exact mV_e b2 (mE_27 b2 _ _)
    · rw [if_neg c22] at eby ⊢
      obtain ⟨I2, f1, f2⟩ := mr_fail (w := w) (R := R) h (k := 2) (j := qt_from b st.1) (by decide)
      have f1 : fX12_fail w I L D R 2 (nI (qt_from b st.1)) = some ((), I2, L, D, R) := f1
      rw [if_pos rfl, mR_10 h, f1, qc_bds, qc_bds] at eby
      rw [bg_t (mR_15 h) eby (f2.2.2.2.2.2.1.1.trans h.2.2.2.2.2.1.1.symm)]
      exact mV_e f2 (mE_27 f2 _ _)
  · rw [if_neg c4] at eby
    rw [if_neg (by omega)]
    unfold zBp fX12_begins_b219 at eby
    obtain ⟨I2, f1, f2⟩ := mr_fail (w := w) (R := R) h (k := 2) (j := qt_from b st.1) (by decide)
    have f1 : fX12_fail w I L D R 2 (nI (qt_from b st.1)) = some ((), I2, L, D, R) := f1
    obtain ⟨I3, a1, a2⟩ := mr_opensE (w := w) (R := R) f2
    obtain ⟨I4, j1, j2⟩ := mr_frame (w := w) (R := R) a2 (s := 1) (a := 0) (by decide) (by omega) (by omega) (I3 291 10) 0
    have j1 : fX12_frame w I3 L D R 1 (I3 291 10) 0 0 = some ((), I4, L, D, R) := j1
    rw [ms_54 hts, qc_bds, if_neg (fun u => hno.2.2.2 (of_decide_eq_true u)), mR_10 h, f1, qc_bds, a1, qc_bds, j1, qc_bds, mr_nextE j2, qc_bds] at eby
    rw [bg_f (mR_15 h) eby (lt_F h.2.2.2.2.2.1.1 j2.2.2.2.2.2.1.1 (by rw [List.length_cons]; omega) (by rw [List.length_cons]; omega))]
    exact mV_e j2 (mE_27 j2 _ _)
/-- tag 1 -/
theorem mA_choice (hb : qt_B b len) (hS : mS b ln len q I0) (hln : ∀ c, c < 10 → ln c ≤ 8) (hA : mA w b ln len q I0 L0 D0 R x1 n) {x : Nat} {d : qDen} (h : mR b q I0 L0 D0 none st o J (x :: P) F ds I L D) (hG : mG b len st o J (x :: P) F ds (N + 1)) (hx : ds[x]? = some d) (hd : qs_D st.2.length d) (hz : d.2.2.1 ≤ st.1) (hF0 : ∃ f F', F = f :: F' ∧ f.2.1 = J.length) (h59 : qt_m b st.1 = 59) : mV b len q I0 L0 D0 R (K_e w R x1) o J P F ds (qs_p b ln (n + 1) 1 0 0 o d st) (fX12_expression_b250 w (fX12_expression_l27 w N) I L D R x1) := by
  obtain ⟨g1, g2, g3, g4, g5, g6⟩ := mG_le hb hG
  rw [List.length_cons] at g4
  obtain ⟨N, rfl⟩ : ∃ k, N = k + 1 := ⟨N - 1, by omega⟩
  obtain ⟨e1, e2, e3, e4, e5, e6, e7⟩ := hG
  rw [List.length_cons] at e4
  obtain ⟨I1, a1, a2, a3⟩ := mr_opens (w := w) (R := R) h e2
  have ed0 : ∀ {k : Nat}, k ≤ 4 → (nI k = 0 ↔ k = 0) := fun hk => kz hk
  change mV b len q I0 L0 D0 R (K_e w R x1) o J P F ds (qs_choice b (qs_p b ln n) o d st) _
  unfold fX12_expression_b250 qs_choice
  rw [a1, qc_bds]
  cases ho : qs_op1 b o st with
  | inl e =>
    have m1 := a3 e ho
    obtain ⟨u1, u2, u3⟩ := mr_taken (w := w) (R := R) m1 (by omega)
    obtain ⟨I3, j1, j2⟩ := mr_frame (w := w) (R := R) u2 (s := 4) (a := x) (by decide) (by omega) (by omega) ((qc_u I1 291 32 (nI P.length)) 291 10) (-1)
    have j1 : fX12_frame w (qc_u I1 291 32 (nI P.length)) L D R 4 ((qc_u I1 291 32 (nI P.length)) 291 10) (nI x) (-1) = some ((), I3, L, D, R) := j1
    have h276 : ∀ s0 : Int32, fX12_expression_b276 w (fX12_expression_l27 w (N + 1)) (qc_u I1 291 32 (nI P.length)) L D R x1 (nI x) s0 = some (0, I3, L, D, R) := fun s0 => by
      unfold fX12_expression_b276
      rw [mr_needs4E u2, qc_bds, j1, qc_bds, mr_nextE j2, qc_bds]
      exact mE_27 j2 _ _
    rw [u1, qc_bds, qi_inbN u3 (by decide), qc_gdt]
    refine mV_e j2 ?_
    split
    · exact h276 1
    · exact h276 0
  | inr st' =>
    obtain ⟨rfl, m1⟩ := a2 st' ho
    have ho12 := (qs_op1_of ho).2
    obtain ⟨u1, u2, u3⟩ := mr_taken (w := w) (R := R) m1 (by omega)
    obtain ⟨nx1, nx2, nx3, nx4, nx5⟩ := mR_n u2 hx
    rw [u1, qc_bds, qi_inbN u3 (by decide), qc_gdt, nI_clamp (show x < 2 ^ 31 by omega), nx1]
    unfold fX12_expression_b276
    rw [mR_10 u2]
    show mV b len q I0 L0 D0 R (K_e w R x1) o J P F ds (qs_fit _ _ _) _
    unfold qs_fit
    by_cases c0 : d.1 = 0
    · rw [if_pos ((ed0 nx3).mpr c0), if_pos (qs_beq.mpr c0)]
      obtain ⟨I4, z1, z2, z3⟩ := mr_needs4 (w := w) (R := R) u2 (ok := true) (x := 1) rfl (j := qt_from b st'.1)
      rw [z2 rfl] at z1
      obtain ⟨I3, j1, j2⟩ := mr_frame (w := w) (R := R) u2 (s := 4) (a := x) (by decide) (by omega) (by omega) (nI (qt_from b st'.1)) (-1)
      have j1 : fX12_frame w (qc_u I1 291 32 (nI P.length)) L D R 4 (nI (qt_from b st'.1)) (nI x) (-1) = some ((), I3, L, D, R) := j1
      obtain ⟨I5, L5, D5, k1, k2, k3⟩ := mr_next (w := w) (R := R) hb hS j2 ⟨e1.1, e1.2.1⟩
      rw [z1, qc_bds, mR_10 u2, j1, qc_bds, k1, qc_bds]
      cases ha : qs_adv b st' with
      | inl e =>
        have m3 := k3 e ha
        exact mV_e m3 (mE_27 m3 _ _)
      | inr st1 =>
        have m3 := k2 st1 ha
        obtain ⟨q1, q2, q3⟩ := qs_G_adv hb e1 (by omega) ha
        have hG2 : mG b len st1 (o + 1) J P ((4, J.length, nI (qt_from b st'.1), x, -1) :: F) ds (N + 1) := ⟨q1, by omega, by rw [List.length_cons]; omega, by omega, by rw [List.length_cons]; omega, by rw [List.length_cons]; omega, by omega⟩
        have hv := hA.1 (o + 1) st1 J P _ ds (N + 1) I5 L5 D5 m3 hG2 ⟨_, F, rfl, rfl⟩ (Or.inl (by rw [List.length_cons]; omega))
        refine mV_b hv (fun s N' n' y t I6 L6 D6 hr m4 hy hG4 hn4 => ?_)
        obtain ⟨d1, d2, d3, d4⟩ := (qs_good hb hln n 0 0 0 (o + 1) _ st1 s hr q1).1 (by decide) (by decide) ⟨fun u => (by omega), fun u => (by omega)⟩
        rw [List.length_cons] at hn4
        obtain ⟨I7, L7, D7, w1, w2⟩ := me_colon (w := w) (R := R) (x1 := x1) (n' := n') hb hS m4 hG4 e6 (by omega) s.2
        cases hx2 : qs_ex b 60 s.2 with
        | inl e =>
          obtain ⟨⟨st'', m5⟩, w3⟩ := w2 e hx2
          exact mV_e m5 w3
        | inr st2 =>
          obtain ⟨m5, w3⟩ := w1 st2 hx2
          obtain ⟨s1, s2, s3⟩ := qs_ex_n (by decide) hb hG4.1 hx2
          rw [w3]
          have hG5 : mG b len st2 (o + 1) J P ((5, J.length, nI (qt_from b s.2.1), x, nI y) :: F) (ds ++ t) N' := by
            obtain ⟨f1, f2, f3, f4, f5, f6, f7⟩ := hG4
            rw [List.length_cons] at f3 f4 f5
            exact ⟨s1, by omega, by rw [List.length_cons]; omega, by omega, by rw [List.length_cons]; omega, by rw [List.length_cons]; omega, by omega⟩
          have hv2 := hA.1 (o + 1) st2 J P _ (ds ++ t) N' I7 L7 D7 m5 hG5 ⟨_, F, rfl, rfl⟩ (Or.inl (by rw [List.length_cons]; omega))
          refine mV_ds (t0 := t) (mV_b hv2 (fun s' N2 n2 z t' I8 L8 D8 hr2 m6 hz6 hG6 hn6 => ?_))
          obtain ⟨p1, p2, p3, p4⟩ := (qs_good hb hln n 0 0 0 (o + 1) _ st2 s' hr2 s1).1 (by decide) (by decide) ⟨fun u => (by omega), fun u => (by omega)⟩
          have hle6 := (mG_le hb hG6).2.2.2.2.2
          rw [List.length_cons] at hn6
          have hsz : (d_ch (max s.1.1 s'.1.1) d s.1 s'.1).2.2.1 = d.2.2.1 + s.1.2.2.1 + s'.1.2.2.1 + 1 := rfl
          have s3l : st2.2.length = s.2.2.length := by rw [s3]
          have q3l : st1.2.length = st'.2.length := by rw [q3]
          have hstl : st'.2.length ≤ s'.2.2.length := by omega
          exact mV_ds (me_else (nr := s'.2.2.length) hb hS m6 hG6 (by omega) (ds_up (ds_up hx)) (ds_up hy) hz6 (fun u => ⟨D_ch (qs_Q_up hb p1 hd hstl) (qs_Q_up hb p1 d2 (by omega)) p2 c0 rfl u, by rw [hsz]; omega⟩) s'.2 e6 e5)
    · rw [if_neg (fun u => c0 ((ed0 nx3).mp u)), if_neg (fun u => c0 (qs_beq.mp u))]
      obtain ⟨I4, z1, z2, z3⟩ := mr_needs4 (w := w) (R := R) u2 (ok := false) (x := 0) rfl (j := qt_from b st'.1)
      have m3 := z3 rfl
      obtain ⟨I5, j1, j2⟩ := mr_frame (w := w) (R := R) m3 (s := 4) (a := x) (by decide) (by omega) (by omega) (I4 291 10) (-1)
      have j1 : fX12_frame w I4 L D R 4 (I4 291 10) (nI x) (-1) = some ((), I5, L, D, R) := j1
      rw [z1, qc_bds, j1, qc_bds, mr_nextE j2, qc_bds]
      exact mV_e j2 (mE_27 j2 _ _)
end
