/-! the reference reads as the spec does: joined sums -/
section
variable {w : qcW} {I I0 : qTI} {L L0 : qTL} {D D0 : qTD} {R : qTR} {b ln : Nat → Nat} {len q o N n : Nat} {τ : Option (Nat × Nat)} {st : qP} {J : qJs} {P : List Nat} {F : qFs} {ds : List qDen} {x1 x3 : Int32} {f : Nat × Nat × Int32 × Nat × Int32}
theorem tpJ_L {x s : Nat} (h : tpJ x J F) (hs : x ≤ s) (h3 : s ≠ 3) : tpL s J F := by
  obtain ⟨f, F', e, z⟩ := h
  refine ⟨f, F', e, z.imp id ?_⟩
  rintro ⟨j, J', a1, a2, a3⟩
  exact ⟨j, J', a1, a2, by omega⟩
theorem jn_sz (m : Nat) (x y : qDen) : (qs_join m x y).2.2.1 = x.2.2.1 + y.2.2.1 + 1 := by
  unfold qs_join
  repeat' split
  all_goals rfl
/-- tag 3 -/
theorem mA_loop (hb : qt_B b len) (hS : mS b ln len q I0) (hln : ∀ c, c < 10 → ln c ≤ 8) (hA : mA w b ln len q I0 L0 D0 R x1 n) {y z n' x : Nat} {d : qDen} (h : mR b q I0 L0 D0 none st o J (x :: P) F ds I L D) (hG : mG b len st o J (x :: P) F ds (N + 1)) (hn : J.length + F.length < n') (hx : ds[x]? = some d) (hd : qs_D st.2.length d) (hz : d.2.2.1 ≤ st.1) (hy1 : 1 ≤ y) (hy9 : y ≤ 9) (ht : tpJ y J F) (hi : qs_sv (qt_m b st.1) ≤ z ∨ (qs_sv (qt_m b st.1) = 4 ∧ z ≤ 3)) (h5 : 5 ≤ y → 5 ≤ z) : mV b len q I0 L0 D0 R (K_m w b R x1 y) o J P F ds (qs_p b ln (n + 1) 3 y z o d st) (K_y w b R x1 z N n' I L D st) := by
  obtain ⟨g1, g2, g3, g4, g5, g6⟩ := mG_le hb hG
  rw [List.length_cons] at g4
  have hts := mr_ts (w := w) (R := R) hb hS h (mG_st hG)
  have hm := qt_m_lt b st.1
  have hm63 := (mG_st hG).2
  have sv8 := sv_le (qt_m b st.1)
  obtain ⟨N, rfl⟩ : ∃ k, N = k + 1 := ⟨N - 1, by omega⟩
  change mV b len q I0 L0 D0 R (K_m w b R x1 y) o J P F ds (qs_loop b (qs_p b ln n) y z o d st) _
  unfold qs_loop
  by_cases c : y ≤ qs_sv (qt_m b st.1) ∧ qs_sv (qt_m b st.1) ≤ z
  · rw [if_pos c]
    have hq0 : qt_m b st.1 ≠ 0 := fun u => by rw [u] at c; have : qs_sv 0 = 0 := rfl; omega
    obtain ⟨n', rfl⟩ : ∃ k, n' = k + 1 := ⟨n' - 1, by omega⟩
    obtain ⟨I1, L1, D1, k1, k2, k3⟩ := mo_step (w := w) (R := R) (n := n') (x1 := x1) (k27 := fX12_expression_l27 w (N + 1)) hb hS h (mG_st hG) (by omega) (by omega) (by omega) (tpJ_L ht c.1 sv8.2)
    have eK : K_y w b R x1 z (N + 1) (n' + 1) I L D st = mOu w (fX12_expression_l27 w (N + 1)) (n' + 1) I L D R x1 := by
      unfold K_y
      rw [if_neg (by omega)]
    rw [eK, k1]
    cases ha : qs_adv b st with
    | inl e =>
      have m1 := k3 e ha
      exact mV_e m1 (mE_27 m1 _ _)
    | inr st1 =>
      have m1 := k2 st1 ha
      obtain ⟨q1, q2, q3⟩ := qs_G_adv hb hG.1 hq0 ha
      obtain ⟨e1, e2, e3, e4, e5, e6, e7⟩ := hG
      rw [List.length_cons] at e4
      obtain ⟨f, F', hF, hor⟩ := ht
      have hfj : f.2.1 ≤ J.length := by
        rcases hor with u | ⟨j, J', u1, u2, u3⟩
        · omega
        · rw [u1, List.length_cons]; omega
      have hG2 : mG b len st1 o ((qs_sv (qt_m b st.1), qs_jo (qt_m b st.1), nI (qt_from b st.1)) :: J) (x :: P) F ds (N + 1) := ⟨q1, e2, by rw [List.length_cons]; omega, by rw [List.length_cons]; omega, e5, e6, by omega⟩
      have hmn : (if qs_sv (qt_m b st.1) + 1 ≤ 3 then (1 : Int32) else 0) = (if 3 ≤ qs_sv (qt_m b st.1) then 0 else 1) := by
        by_cases u : 3 ≤ qs_sv (qt_m b st.1)
        · rw [if_neg (by omega), if_pos u]
        · rw [if_pos (by omega), if_neg u]
      rw [← hmn]
      have hv := hA.2.1 (qs_sv (qt_m b st.1) + 1) o st1 _ (x :: P) F ds (N + 1) I1 L1 D1 m1 hG2 (by omega) (by omega) ⟨f, F', hF, Or.inr ⟨_, J, rfl, hfj, Or.inl (by show qs_sv (qt_m b st.1) < _; omega)⟩⟩
      refine mV_b hv (fun s N2 n2 y2 t I2 L2 D2 hr m2 hy2 hG3 hn2 => ?_)
      obtain ⟨d1, d2, d3, d4⟩ := (qs_good hb hln n 2 _ 0 o _ st1 s hr q1).1 (by decide) (by decide) ⟨fun _ => (by omega), fun u => (by omega)⟩
      have hen := (qs_ended b ln n).1 _ _ _ _ _ hr
      obtain ⟨w1, w2, w3, w4, w5, w6⟩ := mG_le hb hG3
      simp only [List.length_cons] at w1 w4 hn2
      have hts2 := mr_ts (w := w) (R := R) hb hS m2 (mG_st hG3)
      have hm2 := qt_m_lt b s.2.1
      have hm263 := (mG_st hG3).2
      have hsz : (qs_join (qt_m b st.1) d s.1).2.2.1 ≤ s.2.1 := by rw [jn_sz]; omega
      have hdn : qs_D s.2.2.length d := qs_Q_up hb d1 hd (by rw [← q3]; exact d3)
      obtain ⟨I3, j1, j2, j3⟩ := mr_joinB (w := w) (R := R) (m := qt_m b st.1) (nr := s.2.2.length) (at_ := qt_from b st.1) (by omega) (by omega) m2 (ds_up hx) hy2 (by omega) (by omega) (by omega) (fun u => ⟨D_join (by omega) hdn d2 u, by omega⟩)
      obtain ⟨n2, rfl⟩ : ∃ k, n2 = k + 1 := ⟨n2 - 1, by omega⟩
      have tg : ∀ s', s' ≤ qs_sv (qt_m b st.1) → tpG s' ((qs_sv (qt_m b st.1), qs_jo (qt_m b st.1), nI (qt_from b st.1)) :: J) F := fun s' hs' => ⟨f, F', _, J, hF, rfl, hfj, hs'⟩
      have sv82 := sv_le (qt_m b s.2.1)
      have hG4 : mG b len s.2 o J ((ds ++ t).length :: P) F (ds ++ t ++ [qs_join (qt_m b st.1) d s.1]) (N2 + 1) := by
        obtain ⟨f1, f2, f3, f4, f5, f6, f7⟩ := hG3
        simp only [List.length_cons] at f3 f4
        exact ⟨f1, f2, by rw [List.length_append, List.length_singleton]; omega, by rw [List.length_cons]; omega, f5, f6, f7⟩
      -- how it goes on
      have go : ∃ n3, J.length + F.length < n3 ∧ (qs_fits (qt_m b st.1) d.1 s.1.1 = true → K_m w b R x1 (qs_sv (qt_m b st.1) + 1) N2 (n2 + 1) I2 L2 D2 s.2 = K_y w b R x1 (if qs_sv (qt_m b st.1) = 4 then 3 else qs_sv (qt_m b st.1)) N2 n3 I3 L2 D2 s.2) ∧ (qs_fits (qt_m b st.1) d.1 s.1.1 = false → K_m w b R x1 (qs_sv (qt_m b st.1) + 1) N2 (n2 + 1) I2 L2 D2 s.2 = some (0, I3, L2, D2, R)) := by
        unfold K_m K_y
        by_cases cA : qs_sv (qt_m b st.1) + 1 ≤ 4 ∧ qs_sv (qt_m b s.2.1) = 4
        · refine ⟨n2, by omega, fun u => ?_, fun u => ?_⟩
          · rw [if_pos cA, if_pos ⟨cA.2, by rw [if_neg (by omega)]; omega⟩]
            exact mm_red m2 (by omega) (by rw [List.length_cons]; omega) j1 (j2 u) (tg 0 (by omega))
          · rw [if_pos cA]
            obtain ⟨n2, rfl⟩ : ∃ k, n2 = k + 1 := ⟨n2 - 1, by omega⟩
            obtain ⟨N2, rfl⟩ : ∃ k, N2 = k + 1 := ⟨N2 - 1, by omega⟩
            rw [mm_red m2 (by omega) (by rw [List.length_cons]; omega) j1 (j3 u) (tg 0 (by omega))]
            exact mE_Md (j3 u)
        · have hle : qs_sv (qt_m b s.2.1) ≤ qs_sv (qt_m b st.1) := by
            rcases hen with u | u
            · omega
            · omega
          by_cases cB : qs_sv (qt_m b st.1) = 4 ∧ qs_sv (qt_m b s.2.1) = 4
          · have es := mo_sec (w := w) (R := R) (n := n2) (x1 := x1) (k27 := fX12_expression_l27 w N2) m2 hts2 (by omega) (by rw [List.length_cons]; omega) cB.2 hF rfl hfj cB.1
            refine ⟨4095, by omega, fun u => ?_, fun u => ?_⟩
            · rw [if_neg cA, if_pos ⟨cB.2, by rw [if_pos cB.1]; omega⟩, es]
              exact mm_red (n := 4095) m2 (by omega) (by rw [List.length_cons]; omega) j1 (j2 u) (tg 0 (by omega))
            · obtain ⟨N2, rfl⟩ : ∃ k, N2 = k + 1 := ⟨N2 - 1, by omega⟩
              rw [if_neg cA, es]
              have e6 := mm_red (w := w) (R := R) (n := 4095) (x1 := x1) (k27 := fX12_expression_l27 w (N2 + 1)) m2 (by omega) (by rw [List.length_cons]; omega) j1 (j3 u) (tg 0 (by omega))
              exact e6.trans (mE_Md (n := 4094) (j3 u))
          · have h4 : qs_sv (qt_m b s.2.1) = 4 → tpG 5 ((qs_sv (qt_m b st.1), qs_jo (qt_m b st.1), nI (qt_from b st.1)) :: J) F := fun u => tg 5 (by omega)
            refine ⟨n2, by omega, fun u => ?_, fun u => ?_⟩
            · rw [if_neg cA, if_neg (by
                by_cases v : qs_sv (qt_m b st.1) = 4
                · rw [if_pos v]; omega
                · rw [if_neg v]; omega)]
              exact (mo_red (n := n2) (x1 := x1) (k27 := fX12_expression_l27 w N2) m2 hts2 (by omega) (by rw [List.length_cons]; omega) (by omega) j1 (j2 u) rfl rfl (by omega) (tg _ hle) h4 (fun _ => mr_ts (w := w) (R := R) hb hS (j2 u) (mG_st hG3))).1 rfl
            · obtain ⟨N2, rfl⟩ : ∃ k, N2 = k + 1 := ⟨N2 - 1, by omega⟩
              rw [if_neg cA]
              exact (mo_red (n := n2) (x1 := x1) (k27 := fX12_expression_l27 w (N2 + 1)) m2 hts2 (by omega) (by rw [List.length_cons]; omega) (by omega) j1 (j3 u) rfl rfl (by omega) (tg _ hle) h4 (fun v => by cases v)).2 _ rfl N2 rfl (by omega)
      obtain ⟨n3, go1, go2, go3⟩ := go
      show mV b len q I0 L0 D0 R (K_m w b R x1 y) o J P F ds (qs_fit _ _ _) (K_m w b R x1 (qs_sv (qt_m b st.1) + 1) N2 (n2 + 1) I2 L2 D2 s.2)
      unfold qs_fit
      cases hok : qs_fits (qt_m b st.1) d.1 s.1.1 with
      | true =>
        rw [if_pos rfl, go2 hok]
        have hv2 := hA.2.2.2.2.2.2.2 y (if qs_sv (qt_m b st.1) = 4 then 3 else qs_sv (qt_m b st.1)) o s.2 J P F (ds ++ t ++ [qs_join (qt_m b st.1) d s.1]) N2 n3 I3 L2 D2 (ds ++ t).length (qs_join (qt_m b st.1) d s.1) (j2 hok) hG4 go1 (by rw [List.getElem?_append_right (Nat.le_refl _), Nat.sub_self]; rfl) (D_join (by omega) hdn d2 hok) hsz hy1 hy9 ⟨f, F', hF, hor⟩ (by
          unfold qs_en at hen
          by_cases v : qs_sv (qt_m b st.1) = 4
          · rw [if_pos v]; omega
          · rw [if_neg v]; omega) (fun v => by rw [if_neg (by omega)]; omega)
        rw [List.append_assoc] at hv2
        exact mV_ds (t0 := t ++ [qs_join (qt_m b st.1) d s.1]) hv2
      | false =>
        rw [if_neg (by decide), go3 hok]
        exact mV_e (j3 hok) rfl
  · rw [if_neg c]
    refine mV_s (s := (d, st)) (t := []) (x := x) (n := n') (N := N + 1) (by rw [List.append_nil]; exact h) (by rw [List.append_nil]; exact hx) (by rw [List.append_nil]; exact hG) hn ?_
    unfold K_y K_m
    by_cases u : qs_sv (qt_m b st.1) = 4 ∧ z ≤ 3
    · rw [if_pos u, if_pos ⟨by omega, u.1⟩]
    · rw [if_neg u, if_neg (fun v => by
        have v : y ≤ 4 ∧ qs_sv (qt_m b st.1) = 4 := v
        omega)]
/-- tag 2 -/
theorem mA_joined (hb : qt_B b len) (hS : mS b ln len q I0) (hln : ∀ c, c < 10 → ln c ≤ 8) (hA : mA w b ln len q I0 L0 D0 R x1 n) {x : Nat} (h : mR b q I0 L0 D0 none st o J P F ds I L D) (hG : mG b len st o J P F ds N) (hx1 : 1 ≤ x) (hx9 : x ≤ 9) (ht : tpJ x J F) : mV b len q I0 L0 D0 R (K_m w b R x1 x) o J P F ds (qs_p b ln (n + 1) 2 x 0 o (d_lf 0 []) st) (fX12_expression_l27 w N (I, L, D, R, x1, 1, if x ≤ 3 then 1 else 0)) := by
  obtain ⟨g1, g2, g3, g4, g5, g6⟩ := mG_le hb hG
  have hts := mr_ts (w := w) (R := R) hb hS h (mG_st hG)
  obtain ⟨f, F', hF, hor⟩ := ht
  have hfj : f.2.1 ≤ J.length := by
    rcases hor with u | ⟨j, J', u1, u2, u3⟩
    · omega
    · rw [u1, List.length_cons]; omega
  change mV b len q I0 L0 D0 R (K_m w b R x1 x) o J P F ds (qs_joined b (qs_p b ln n) x o st) _
  unfold qs_joined
  by_cases c : x ≤ 3 ∧ qt_m b st.1 = 19
  · rw [if_pos c, if_pos c.1]
    obtain ⟨N, rfl⟩ : ∃ k, N = k + 2 := ⟨N - 2, by omega⟩
    obtain ⟨I1, a1, a2, a3⟩ := mr_opens (w := w) (R := R) h hG.2.1
    have ebeg : fX12_begins w I L D R 1 = qc_bd (fX12_opens w I L D R) fun r32 I32 L32 D32 R32 => qc_bd (fX12_joint w I32 L32 D32 R32 (3 : Int32) (0 : Int32)) fun r33 I33 L33 D33 R33 => qc_bd (fX12_next w I33 L33 D33 R33) fun r34 I34 L34 D34 R34 => some (false, I34, L34, D34, R34) := by
      unfold fX12_begins
      rw [mw_19 hts, qc_bds, if_pos (decide_eq_true c.2), if_neg (show ¬ (1 : Int32) = 0 by decide)]
    rw [a1] at ebeg
    rw [qc_bds] at ebeg
    cases ho : qs_op1 b o st with
    | inl e =>
      have m1 := a3 e ho
      obtain ⟨I2, j1, j2⟩ := mr_joint (w := w) (R := R) m1 (s := 3) (p := 0) (by decide) (by omega)
      have j1 : fX12_joint w I1 L D R 3 0 = some ((), I2, L, D, R) := j1
      rw [j1, qc_bds, mr_nextE j2, qc_bds] at ebeg
      rw [bg_j (mR_15 h) ebeg j2 (by omega) (j2.2.2.2.2.2.1.1.trans h.2.2.2.2.2.1.1.symm)]
      exact mV_e j2 (mE_27 j2 _ _)
    | inr st' =>
      obtain ⟨rfl, m1⟩ := a2 st' ho
      have ho12 := (qs_op1_of ho).2
      obtain ⟨I2, j1, j2⟩ := mr_joint (w := w) (R := R) m1 (s := 3) (p := 0) (by decide) (by omega)
      rw [mR_10 m1] at j2
      have j1 : fX12_joint w I1 L D R 3 0 = some ((), I2, L, D, R) := j1
      obtain ⟨I3, L3, D3, k1, k2, k3⟩ := mr_next (w := w) (R := R) hb hS j2 (mG_st hG)
      rw [j1, qc_bds, k1, qc_bds] at ebeg
      show mV b len q I0 L0 D0 R (K_m w b R x1 x) o J P F ds (qs_b (qs_adv b st') _) _
      cases ha : qs_adv b st' with
      | inl e =>
        have m3 := k3 e ha
        rw [bg_j (mR_15 h) ebeg m3 (by omega) (m3.2.2.2.2.2.1.1.trans h.2.2.2.2.2.1.1.symm)]
        exact mV_e m3 (mE_27 m3 _ _)
      | inr st2 =>
        have m3 := k2 st2 ha
        obtain ⟨q1, q2, q3⟩ := qs_G_adv hb hG.1 (by omega) ha
        rw [bg_j (mR_15 h) ebeg m3 (by omega) (m3.2.2.2.2.2.1.1.trans h.2.2.2.2.2.1.1.symm), if_pos (show (3, 0, nI (qt_from b st'.1)).1 = 3 from rfl)]
        obtain ⟨e1, e2, e3, e4, e5, e6, e7⟩ := hG
        have hG2 : mG b len st2 (o + 1) ((3, 0, nI (qt_from b st'.1)) :: J) P F ds (N + 1) := ⟨q1, by omega, by rw [List.length_cons]; omega, by omega, by omega, e6, by omega⟩
        have hv := hA.2.1 3 (o + 1) st2 _ P F ds (N + 1) I3 L3 D3 m3 hG2 (by decide) (by decide) ⟨f, F', hF, Or.inr ⟨_, J, rfl, hfj, Or.inr ⟨rfl, rfl⟩⟩⟩
        rw [if_pos (show 3 ≤ 3 by decide)] at hv
        refine mV_b hv (fun s N2 n2 y2 t I4 L4 D4 hr m4 hy4 hG4 hn4 => ?_)
        obtain ⟨d1, d2, d3, d4⟩ := (qs_good hb hln n 2 3 0 (o + 1) _ st2 s hr q1).1 (by decide) (by decide) ⟨fun _ => (by omega), fun u => (by omega)⟩
        have hen := (qs_ended b ln n).1 _ _ _ _ _ hr
        obtain ⟨w1, w2, w3, w4, w5, w6⟩ := mG_le hb hG4
        simp only [List.length_cons] at w1 w4 hn4
        have hts4 := mr_ts (w := w) (R := R) hb hS m4 (mG_st hG4)
        have hm4 := qt_m_lt b s.2.1
        have hm463 := (mG_st hG4).2
        have hokT : Nat.beq s.1.1 0 = true → qs_D s.2.2.length (d_un 0 s.1.1 [(1810, 0)] s.1) ∧ (d_un 0 s.1.1 [(1810, 0)] s.1).2.2.1 ≤ 400 := fun u => ⟨D_un d2 (by decide) (Or.inr rfl) (by rw [qs_beq.mp u]; exact T_not) (show 1 ≤ 3 by decide), by rw [un_sz]; omega⟩
        obtain ⟨I5, j5, j6, j7⟩ := mr_joinU (w := w) (R := R) (k := 3) (p := 0) (nr := s.2.2.length) (ok := Nat.beq s.1.1 0) (d := d_un 0 s.1.1 [(1810, 0)] s.1) (Or.inr ⟨rfl, rfl⟩) m4 hy4 (by omega) (by omega) (by omega) (by rw [if_neg (by decide)]) (by rw [if_neg (by decide)]) hokT
        obtain ⟨n2, rfl⟩ : ∃ k, n2 = k + 1 := ⟨n2 - 1, by omega⟩
        have tg : ∀ s', s' ≤ 3 → tpG s' ((3, 0, nI (qt_from b st'.1)) :: J) F := fun s' hs' => ⟨f, F', _, J, hF, rfl, hfj, hs'⟩
        have hG5 : mG b len s.2 o J ((ds ++ t).length :: P) F (ds ++ t ++ [d_un 0 s.1.1 [(1810, 0)] s.1]) (N2 + 1) := by
          obtain ⟨f1, f2, f3, f4, f5, f6, f7⟩ := hG4
          simp only [List.length_cons] at f3 f4
          exact ⟨f1, by omega, by rw [List.length_append, List.length_singleton]; omega, by rw [List.length_cons]; omega, e5, f6, f7⟩
        have go : (Nat.beq s.1.1 0 = true → K_m w b R x1 3 N2 (n2 + 1) I4 L4 D4 s.2 = K_y w b R x1 2 N2 n2 I5 L4 D4 s.2) ∧ (Nat.beq s.1.1 0 = false → K_m w b R x1 3 N2 (n2 + 1) I4 L4 D4 s.2 = some (0, I5, L4, D4, R)) := by
          unfold K_m K_y
          obtain ⟨n3, rfl⟩ : ∃ k, n2 = k + 1 := ⟨n2 - 1, by omega⟩
          by_cases cA : qs_sv (qt_m b s.2.1) = 4
          · refine ⟨fun u => ?_, fun u => ?_⟩
            · rw [if_pos ⟨by decide, cA⟩, if_pos ⟨cA, by decide⟩]
              exact mm_red m4 (by omega) (by rw [List.length_cons]; omega) j5 (j6 u) (tg 0 (by omega))
            · rw [if_pos ⟨by decide, cA⟩]
              obtain ⟨N2, rfl⟩ : ∃ k, N2 = k + 1 := ⟨N2 - 1, by omega⟩
              rw [mm_red m4 (by omega) (by rw [List.length_cons]; omega) j5 (j7 u) (tg 0 (by omega))]
              exact mE_Md (j7 u)
          · have hle : qs_sv (qt_m b s.2.1) ≤ 3 := by
              rcases hen with u | u
              · omega
              · exact absurd u.1 cA
            refine ⟨fun u => ?_, fun u => ?_⟩
            · rw [if_neg (fun v => cA v.2), if_neg (fun v => cA v.1)]
              exact (mo_red (n := n3 + 1) (x1 := x1) (k27 := fX12_expression_l27 w N2) m4 hts4 (by omega) (by rw [List.length_cons]; omega) (by omega) j5 (j6 u) rfl rfl (by omega) (tg _ hle) (fun v => absurd v cA) (fun _ => mr_ts (w := w) (R := R) hb hS (j6 u) (mG_st hG4))).1 rfl
            · obtain ⟨N2, rfl⟩ : ∃ k, N2 = k + 1 := ⟨N2 - 1, by omega⟩
              rw [if_neg (fun v => cA v.2)]
              exact (mo_red (n := n3 + 1) (x1 := x1) (k27 := fX12_expression_l27 w (N2 + 1)) m4 hts4 (by omega) (by rw [List.length_cons]; omega) (by omega) j5 (j7 u) rfl rfl (by omega) (tg _ hle) (fun v => absurd v cA) (fun v => by cases v)).2 _ rfl N2 rfl (by omega)
        show mV b len q I0 L0 D0 R (K_m w b R x1 x) o J P F ds (qs_fit _ _ _) (K_m w b R x1 3 N2 (n2 + 1) I4 L4 D4 s.2)
        unfold qs_fit
        cases hok : Nat.beq s.1.1 0 with
        | true =>
          rw [if_pos rfl, go.1 hok]
          have hv2 := hA.2.2.2.2.2.2.2 x 2 o s.2 J P F (ds ++ t ++ [d_un 0 s.1.1 [(1810, 0)] s.1]) N2 n2 I5 L4 D4 (ds ++ t).length (d_un 0 s.1.1 [(1810, 0)] s.1) (j6 hok) hG5 (by omega) (by rw [List.getElem?_append_right (Nat.le_refl _), Nat.sub_self]; rfl) (hokT hok).1 (by rw [un_sz]; omega) hx1 hx9 ⟨f, F', hF, hor⟩ (by
            rcases hen with u | u
            · exact Or.inl (by omega)
            · exact Or.inr ⟨u.1, by decide⟩) (by omega)
          rw [List.append_assoc] at hv2
          exact mV_ds (t0 := t ++ [d_un 0 s.1.1 [(1810, 0)] s.1]) hv2
        | false =>
          rw [if_neg (by decide), go.2 hok]
          exact mV_e (j7 hok) rfl
  · rw [if_neg c]
    have hv := hA.2.2.1 o st J P F ds N I L D (if x ≤ 3 then 1 else 0) h hG (fun u => by rw [if_neg (fun v => c ⟨v, u⟩)]) ⟨f, F', hF, hfj⟩
    refine mV_b hv (fun s N2 n2 y2 t I4 L4 D4 hr m4 hy4 hG4 hn4 => ?_)
    obtain ⟨d1, d2, d3, d4⟩ := (qs_good hb hln n 4 0 0 o _ st s hr hG.1).1 (by decide) (by decide) ⟨fun u => (by omega), fun u => (by omega)⟩
    have eK : K_o w R x1 N2 n2 I4 L4 D4 s.2 = K_y w b R x1 8 N2 n2 I4 L4 D4 s.2 := by
      unfold K_o K_y
      rw [if_neg (by omega)]
    rw [eK]
    exact mV_ds (hA.2.2.2.2.2.2.2 x 8 o s.2 J P F (ds ++ t) N2 n2 I4 L4 D4 y2 s.1 m4 hG4 hn4 hy4 d2 (by omega) hx1 hx9 ⟨f, F', hF, hor⟩ (Or.inl (sv_le _).1) (by omega))
end
