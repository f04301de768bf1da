/-! the class reads set, first, by; the end -/
section
variable {w : qcW} {b ln : Nat → Nat} {len c B sort : Nat} {I : qTI} {L : qTL} {D : qTD} {R : qTR} {st : qP} {K : qKs} {z : qZS} {x : qX}
theorem fX2_72 (w : qcW) (I : qTI) (L : qTL) (D : qTD) (R : qTR) {lane m : Nat} (h8 : lane < 8) (hm : m ≤ 4) (x2 : Int32) : (if nI m = 0 then (fX2_readSet_b72 w I L D R (nI lane) x2 (nI m) (1 : Int32)) else (fX2_readSet_b72 w I L D R (nI lane) x2 (nI m) (0 : Int32))) = fX2_readSet_b89 w I L D R (nI lane) x2 (nI m) (if (Nat.beq m 0 == Nat.beq lane 0) = true then 1 else 0) := by
  unfold fX2_readSet_b72 fX2_readSet_b81
  rcases (show m = 0 ∨ m = 1 ∨ m = 2 ∨ m = 3 ∨ m = 4 by omega) with rfl | rfl | rfl | rfl | rfl <;> rcases (show lane = 0 ∨ lane = 1 ∨ lane = 2 ∨ lane = 3 ∨ lane = 4 ∨ lane = 5 ∨ lane = 6 ∨ lane = 7 by omega) with rfl | rfl | rfl | rfl | rfl | rfl | rfl | rfl <;> rfl
theorem r_lane (h : rG b ln len st K z I D R) {k : Nat} (hk : k < 10) : fX1_laneOf w I L D R (nI k) = some ((if ln k = 8 then -1 else nI (ln k)), I, L, D, R) := cx_lane (c := R 267 4) ⟨h.1.1, rfl, h.1.2.2.1, h.1.2.1⟩ hk
theorem r_set1 (hW : qc_WF w) (hb : qt_B b len) (hln : ∀ c, c < 10 → ln c ≤ 8) (h : rT b ln len 2 (x, st) I D R) (hx : x.2.1 = none) : rU (fun s (_ : Unit) I D R => rT b ln len 2 s I D R) (rE 5010) L (q_set1 b ln x st) I D R (fX2_readSet w I L D R) := by
  obtain ⟨K, hG, hK⟩ := h
  have hG : rG b ln len st K (q_z 2 x) I D R := hG
  have hK : rK ln 2 x K := hK
  have hK0 := rK_1 hK hx
  rw [fX2_set_zS]
  have g0 := rG_10 hG (I 268 4)
  refine rU_tr (rF_I 10 (I 268 4)) ?_
  unfold q_set1
  -- the way on when a fault was told
  have bad : ∀ {e : Nat × Nat} {I1 : qTI} {D1 : qTD} {R1 : qTR} (r13 : Int32), rE 5000 e I1 R1 → eO (rE 5010 e) I1 L D1 R1 (qc_bd (fX2_expect w I1 L D1 R1 3) fun r14 I14 L14 D14 R14 => qc_bd (fX2_expect w I14 L14 D14 R14 61) fun r15 I15 L15 D15 R15 => zS w r13 (I14 268 2) I15 L15 D15 R15) := fun {e I1 D1 R1} r13 he => by
    rw [eO_expect he (by decide) (by decide), qc_bds, eO_expect he (by decide) (by decide), qc_bds]
    exact eO_mono (eO_zS hW (by decide) he _ _) (fun _ _ h => rE_up h (by decide))
  by_cases h3 : qt_m b st.1 = 3
  · have h10 := (qt_col hb h3).1
    rw [if_pos h3]
    have hmet : fX2_metColumn w (qc_u I 267 10 (I 268 4)) L D R = (if ln (qt_n b st.1) = 8 then (qc_bd (fX9_refuse w (qc_u I 267 10 (I 268 4)) L D R 5 (nI (qt_from b st.1))) fun r5 I5 L5 D5 R5 => some ((0 : Int32), I5, L5, D5, R5)) else some (nI (ln (qt_n b st.1)), qc_u I 267 10 (I 268 4), L, D, R)) := by
      unfold fX2_metColumn
      rw [(rG_m g0).2, qc_gdt, (rG_m g0).1, if_pos h3, g0.1.2.2.2.1.2.2.2.2.1 (Or.inr h3), r_lane g0 h10, qc_bds, rG_f g0]
      by_cases h8 : ln (qt_n b st.1) = 8
      · rw [if_pos h8, if_pos h8, if_pos rfl]
      · rw [if_neg h8, if_neg h8, if_neg (nI_ne1 _ (by have := hln _ h10; omega))]
    rw [hmet]
    by_cases h8 : ln (qt_n b st.1) = 8
    · rw [if_pos h8, if_pos h8]
      obtain ⟨I', R', a1, a2, a3, a4, a5⟩ := r_refuse (w := w) (L := L) g0 (k := 5) (j := qt_from b st.1) (by decide)
      have a1 : fX9_refuse w (qc_u I 267 10 (I 268 4)) L D R 5 (nI (qt_from b st.1)) = some ((), I', L, D, R') := a1
      rw [a1, qc_bds, qc_bds]
      exact rU_tr a2 (rU_e (bad 0 a3))
    · rw [if_neg h8, if_neg h8, qc_bds]
      have h7 : ln (qt_n b st.1) < 8 := by have := hln _ h10; omega
      have hex : qs_ex b 3 st = qs_adv b st := by unfold qs_ex; rw [if_pos h3]
      have hx1 := r_expect (w := w) (L := L) hb g0 (m := 3) (by decide) (by decide)
      rw [hex] at hx1
      refine rU_bd hx1 (fun st1 _ I1 D1 R1 hr1 g1 => ?_) (fun e _ I1 D1 R1 he => ?_)
      · rw [rG_f g1]
        refine rU_bd (r_expect (w := w) (L := L) hb g1 (m := 61) (by decide) (by decide)) (fun st2 _ I2 D2 R2 hr2 g2 => ?_) (fun e _ I1 D1 R1 he => ?_)
        · unfold zS
          have g3 := rG_4 g2 273
          have h4 : qc_u R2 267 4 273 267 4 = 273 := qc_u_at _ _ _ _
          rw [h4, qc_WF_i hW (by decide), qc_gdt]
          have hk := g3.1.2.2.2.2.2.2 273 (by decide)
          rw [hK0] at hk
          obtain ⟨I3, e3, k3, f3⟩ := kC_add1 (w := w) (L := L) (D := D2) (o := 3) (a := 0) hW g3.1.2.2.1 (by decide) hk (by decide) (by decide) (by decide) (by decide)
          have e3 : fX0_add w I2 L D2 (qc_u R2 267 4 273) 273 3 0 = some ((), I3, L, D2, qc_u R2 267 4 273) := e3
          obtain ⟨g4, f4⟩ := rG_C (t := ([(3, 0)], 1, 1)) (by decide) g3 f3 k3
          rw [e3, qc_bds]
          refine rU_tr (rF_tr (rF_c 273) f4) ?_
          have hs := rU_sum (w := w) (L := L) hW hb hln (c := 273) (by decide) g4 (kU_at _ _ _) (by decide) (Nat.le_refl 1) (by decide) (tag := 0) (x := 0) (Or.inl ⟨rfl, rfl⟩)
          rw [qc_u_tw] at hs
          refine rU_bd hs (fun q k I4 D4 R4 hr hp => ?_) (fun e v I4 D4 R4 he => ?_)
          · obtain ⟨hk4, g5, g54, gQ⟩ := hp
            rw [kU_kU] at g5
            obtain ⟨n1, n2, n3, n4⟩ := r_len hb gQ
            rw [hk4, fX2_72 w I4 L D4 R4 h7 n2]
            by_cases hok : (Nat.beq q.1.1 0 == Nat.beq (ln (qt_n b st.1)) 0) = true
            · unfold qs_fit
              rw [hok, if_pos rfl, if_pos rfl]
              unfold fX2_readSet_b89
              have hlen5 : ([(3, 0)] ++ qs_sh [(3, 0)].length q.1.2.2.2).length < 4990 := by
                rw [List.length_append, qs_sh_len]
                show 1 + _ < _
                omega
              have hz10 : (I 268 4) = nI (qt_n b st.1) := hG.1.2.2.2.1.2.2.2.2.1 (Or.inr h3)
              obtain ⟨I5, e5, g6, f6⟩ := r_store (w := w) (L := L) (lane := ln (qt_n b st.1)) (n := qt_n b st.1) (f := q.1.1) hW g5 g54 hlen5 (by omega) h7 h10 hz10 n2 (nI (ln (qt_n b st.1))) (nI (qt_from b st1.1))
              rw [e5]
              have hz7 : q_z 2 (q_to x q.1 (qt_n b st.1)) = ((q_z 2 x).1, I 268 4, (q_z 2 x).2.2) := by
                rw [hz10]
                unfold q_z q_kd q_to q_tg
                dsimp only
                rw [hx]
                rfl
              rw [← hz7] at g6
              refine rU_tr f6 (rU_some ⟨_, g6, ?_, ⟨0, fun _ => rfl, ?_⟩, ?_⟩)
              · rw [kU_ne _ _ (by decide)]; exact hK.1
              · rw [kU_at]
                unfold q_c1 q_n1 q_to
                dsimp only
                rw [if_pos rfl, if_pos rfl]
                show (_, 0, _) = (_, 0, _)
                have e1 : max 1 (1 + q.1.2.1) = q.1.2.1 + 1 := by omega
                rw [e1]
                rfl
              · rw [kU_ne _ _ (by decide)]; exact hK.2.2
            · unfold qs_fit
              rw [if_neg hok, if_neg hok]
              unfold fX2_readSet_b89 fX2_fit
              obtain ⟨I', R', a1, a2, a3, a4, a5⟩ := r_refuse (w := w) (L := L) g5 (k := 4) (j := qt_from b st1.1) (by decide)
              have a1 : fX9_refuse w I4 L D4 R4 4 (nI (qt_from b st1.1)) = some ((), I', L, D4, R') := a1
              rw [if_pos rfl, a1, qc_bds, qc_bds]
              have := eO_89 (w := w) (L := L) (D := D4) hW (by decide) (⟨a3, (a5 4).trans g54⟩ : eP 273 5000 _ I' R') (nI (ln (qt_n b st.1))) 0 (nI q.1.1) 1
              unfold fX2_readSet_b89 at this
              rw [eO_fit a3, qc_bds] at this
              exact rU_tr a2 (rU_e (eO_mono this (fun _ _ h => rE_up h (by decide))))
          · have : ∀ v s0, eO (rE 5010 e) I4 L D4 R4 (fX2_readSet_b72 w I4 L D4 R4 (nI (ln (qt_n b st.1))) (nI (qt_from b st1.1)) v s0) := fun v s0 => eO_mono (eO_72 hW (by decide) he _ _ _ _) (fun _ _ h => rE_up h (by decide))
            split
            · exact this v 1
            · exact this v 0
        · exact eO_mono (eO_zS hW (by decide) he _ _) (fun _ _ h => rE_up h (by decide))
      · rw [eO_expect he (by decide) (by decide), qc_bds]
        exact eO_mono (eO_zS hW (by decide) he _ _) (fun _ _ h => rE_up h (by decide))
  · rw [if_neg h3]
    unfold fX2_metColumn
    rw [(rG_m g0).2, qc_gdt, (rG_m g0).1, if_neg h3]
    obtain ⟨I', R', a1, a2, a3, a4, a5⟩ := r_misplaced (w := w) (L := L) g0
    rw [a1, qc_bds, qc_bds]
    exact rU_tr a2 (rU_e (bad 0 a3))
end
