/-! the class reads how (its word), set -/
theorem q_hw_of {m : Nat} (h : q_hw m ≠ 5) : m = 10 ∨ m = 11 ∨ m = 27 ∨ m = 28 ∨ m = 12 := by
  unfold q_hw at h
  repeat' split at h
  all_goals first | omega | (exfalso; exact h rfl)
section
variable {w : qcW} {b ln : Nat → Nat} {len c B sort : Nat} {I : qTI} {L : qTL} {D : qTD} {R : qTR} {st : qP} {K : qKs} {z : qZS} {x : qX}
theorem rU_took {α β : Type} {P : α → β → qTI → qTD → qTR → Prop} {E : Nat × Nat → qTI → qTR → Prop} {g : qP → qR α} {f : Bool → qTI → qTL → qTD → qTR → qcO β} (hb : qt_B b len) (h : rG b ln len st K z I D R) {m : Nat} (hm : m < 62) (h0 : m ≠ 0) (hq : qt_m b st.1 = m)
    (hok : ∀ st1 I1 D1 R1, qs_adv b st = .inr st1 → rG b ln len st1 K z I1 D1 R1 → rU P E L (g st1) I1 D1 R1 (f true I1 L D1 R1))
    (herr : ∀ e I1 D1 R1, rE 5000 e I1 R1 → eO (E e) I1 L D1 R1 (f true I1 L D1 R1)) : rU P E L (qs_b (qs_adv b st) g) I D R (qc_bd (fX2_took w I L D R m) f) := by
  obtain ⟨u, I1, D1, R1, a1, a2, a3, a4⟩ := r_take (w := w) (L := L) hb h (by omega)
  have e1 : fX2_took w I L D R m = some (true, I1, L, D1, R1) := by
    unfold fX2_took
    rw [show qc_l62 m = true from Nat.ble_eq.mpr hm, qc_gdt, (rG_m h).2, qc_gdt, (rG_m h).1, if_pos hq, a1, qc_bds]
  rw [e1, qc_bds]
  refine rU_tr a2 ?_
  cases hr : qs_adv b st with
  | inl e => exact rU_e (herr e I1 D1 R1 (a4 e hr))
  | inr st1 => exact hok st1 I1 D1 R1 hr (a3 st1 hr)
theorem r_how (hW : qc_WF w) (hb : qt_B b len) (hln : ∀ c, c < 10 → ln c ≤ 8) (h : rT b ln len 1 (x, st) I D R) (hx : x.2.1 = none) : rU (fun s (_ : Unit) I D R => rT b ln len 1 s I D R) (rE 5001) L (if q_hw (qt_m b st.1) = 5 then .inl (2, qt_from b st.1) else qs_b (qs_adv b st) fun st1 => (if q_hw (qt_m b st.1) = 0 then .inr (q_how x 0, st1) else q_main b ln qN (q_how x (q_hw (qt_m b st.1))) st1)) I D R (fX2_readHow w I L D R) := by
  obtain ⟨K, hG, hK⟩ := h
  have hG : rG b ln len st K (q_z 1 x) I D R := hG
  have hK : rK ln 1 x K := hK
  have hm := rG_m hG
  have h62 : qt_m b st.1 < 62 := by have := qt_m_lt b st.1; have := hG.2.2.2.1; omega
  unfold fX2_readHow
  rw [hm.2, qc_gdt, hm.1]
  have g8 := rG_8 hG (qt_m b st.1)
  have h8 : qc_u R 267 8 (qt_m b st.1) 267 8 = qt_m b st.1 := qc_u_at _ _ _ _
  refine rU_tr (rF_r (k := 8) (Or.inr rfl) (qt_m b st.1)) ?_
  have kz : ∀ h, q_hw (qt_m b st.1) = h → h ≠ 5 → rT b ln len 1 (q_how x h, st) I D (qc_u R 267 8 (qt_m b st.1)) := fun h e1 e2 => by
    refine ⟨K, ?_, hK.1, ?_, hK.2.2⟩
    · have : q_z 1 (q_how x h) = ((q_z 1 x).1, (q_z 1 x).2.1, (q_z 1 x).2.2.1, (q_z 1 x).2.2.2.1, (q_z 1 x).2.2.2.2.1, qt_m b st.1) := by
        have e3 := q_hm_of (m := qt_m b st.1) (by rw [e1]; exact e2)
        rw [e1] at e3
        unfold q_z q_kd q_how
        dsimp only
        rw [hx, e3]
      rw [this]
      exact g8
    · have e := hK.2.1
      unfold q_c1 q_n1 at e ⊢
      unfold q_how
      dsimp only
      rw [hx] at e ⊢
      exact e
  by_cases y10 : qt_m b st.1 = 10
  · have e1 : q_hw (qt_m b st.1) = 0 := by rw [y10]; rfl
    rw [if_neg (by rw [e1]; decide)]
    refine rU_took hb g8 (by decide) (by decide) y10 (fun st1 I3 D3 R3 hr g5 => ?_) (fun e I3 D3 R3 he => ?_)
    · rw [if_pos rfl, if_pos e1]
      obtain ⟨K', k1, k2⟩ := kz 0 e1 (by decide)
      refine rU_some ⟨K, ?_, hK.1, ?_, hK.2.2⟩
      · have : q_z 1 (q_how x 0) = ((q_z 1 x).1, (q_z 1 x).2.1, (q_z 1 x).2.2.1, (q_z 1 x).2.2.2.1, (q_z 1 x).2.2.2.2.1, qt_m b st.1) := by
          rw [y10]
          unfold q_z q_kd q_how
          dsimp only
          rw [hx]
          rfl
        rw [this]
        exact g5
      · have e := hK.2.1
        unfold q_c1 q_n1 at e ⊢
        unfold q_how
        dsimp only
        rw [hx] at e ⊢
        exact e
    · rw [if_pos rfl]
      exact eO_some (rE_up he (by decide)) _
  · rw [r_took0 g8 (by decide) y10, qc_bds, if_neg (show ¬ false = true by decide), h8, show qc_l62 (qt_m b st.1) = true from Nat.ble_eq.mpr h62, qc_gdt, qc_gdt, qc_gdt, qc_gdt]
    by_cases y5 : q_hw (qt_m b st.1) = 5
    · rw [if_pos y5]
      rw [if_neg (fun u => by rw [u] at y5; cases y5), if_neg (fun u => by rw [u] at y5; cases y5), if_neg (fun u => by rw [u] at y5; cases y5), if_neg (fun u => by rw [u] at y5; cases y5)]
      obtain ⟨I', R', a1, a2, a3, a4, a5⟩ := r_misplaced (w := w) (L := L) g8
      rw [a1, qc_bds]
      exact rU_tr a2 (rU_e (eO_66 hW (by decide) a3 (by rw [a5 8, h8]; exact h62)))
    · rw [if_neg y5]
      have hg := q_hw_of y5
      have e66 : (if qt_m b st.1 = 11 then (fX2_readHow_b66 w I L D (qc_u R 267 8 (qt_m b st.1))) else (if qt_m b st.1 = 12 then (fX2_readHow_b66 w I L D (qc_u R 267 8 (qt_m b st.1))) else (if qt_m b st.1 = 27 then (fX2_readHow_b66 w I L D (qc_u R 267 8 (qt_m b st.1))) else (if qt_m b st.1 = 28 then (fX2_readHow_b66 w I L D (qc_u R 267 8 (qt_m b st.1))) else (qc_bd (fX2_misplaced w I L D (qc_u R 267 8 (qt_m b st.1))) fun r23 I23 L23 D23 R23 => fX2_readHow_b66 w I23 L23 D23 R23))))) = fX2_readHow_b66 w I L D (qc_u R 267 8 (qt_m b st.1)) := by
        rcases hg with u | u | u | u | u
        · exact absurd u y10
        all_goals (rw [u]; rfl)
      rw [e66]
      have hn0 : q_hw (qt_m b st.1) ≠ 0 := by
        rcases hg with u | u | u | u | u
        · exact absurd u y10
        all_goals (rw [u]; decide)
      have hn4 : 1 ≤ q_hw (qt_m b st.1) ∧ q_hw (qt_m b st.1) ≤ 4 := by
        rcases hg with u | u | u | u | u
        · exact absurd u y10
        all_goals (rw [u]; decide)
      simp only [if_neg hn0]
      exact r_66 hW hb hln (kz _ rfl y5) hx (by rcases hg with u | u | u | u | u <;> omega) hn4
/-- set's word and its sum -/
def q_set1 (b ln : Nat → Nat) (x : qX) (st : qP) : qR qXS := if qt_m b st.1 = 3 then (if ln (qt_n b st.1) = 8 then .inl (5, qt_from b st.1) else qs_b (qs_adv b st) fun st1 => qs_b (qs_ex b 61 st1) fun st2 => qs_b (qs_p b ln qN 0 0 0 0 (d_lf 0 []) st2) fun r => qs_fit (Nat.beq r.1.1 0 == Nat.beq (ln (qt_n b st.1)) 0) (qt_from b st1.1) <| .inr (q_to x r.1 (qt_n b st.1), r.2)) else .inl (2, qt_from b st.1)
theorem q_set_1 : q_set b ln qN x st = qs_b (q_set1 b ln x st) fun s => q_where b ln qN s.1 s.2 := by
  unfold q_set q_set1
  split
  · split
    · rfl
    · simp only [qs_ba, qs_fb, qs_bi]
  · rfl
theorem qc_u_tw {α : Type} (f : Nat → Nat → α) (a k : Nat) (v u : α) : qc_u (qc_u f a k v) a k u = qc_u f a k u := by
  funext c j
  by_cases z : c = a ∧ j = k
  · obtain ⟨rfl, rfl⟩ := z
    rw [qc_u_at, qc_u_at]
  · rw [qc_u_ne _ _ (by omega), qc_u_ne _ _ (by omega), qc_u_ne _ _ (by omega)]
/-- the acts behind the sum of set -/
theorem r_store (hW : qc_WF w) {l : List (Nat × Nat)} {pk lane : Nat} (g : rG b ln len st (kU K 273 (l, 2, pk)) z I D R) (h4 : R 267 4 = 273) (hl : l.length < 4990) (hp : 2 ≤ pk) (h8 : lane < 8) {n : Nat} (hn : n < 10) (hz : z.2.1 = nI n) {f : Nat} (hf : f ≤ 4) (x1 x2 : Int32) :
    ∃ I' : qTI, (qc_bd (fX2_fit w I L D R 1 x2) fun r3 I3 L3 D3 R3 => qc_gd (qc_io w (R3 267 4) 0) <| qc_bd (fX1_kindOf w I3 L3 D3 R3 (nI lane)) fun r5 I5 L5 D5 R5 => qc_bd (fX0_convert w I5 L5 D5 R5 (R3 267 4) (nI f) r5) fun r6 I6 L6 D6 R6 => if nI lane < (1 : Int32) then (fX2_readSet_b128 w I6 L6 D6 R6 (nI lane)) else (if (3 : Int32) < nI lane then (fX2_readSet_b128 w I6 L6 D6 R6 (nI lane)) else (qc_gd (qc_io w (R6 267 4) 0) <| qc_bd (fX0_add w I6 L6 D6 R6 (R6 267 4) ((1650 : Int32) + nI lane) (0 : Int32)) fun r10 I10 L10 D10 R10 => fX2_readSet_b128 w I10 L10 D10 R10 (nI lane)))) = some ((), I', L, D, R) ∧ rG b ln len st (kU K 273 (l ++ qs_cv f (qw_kd lane) ++ q_cs lane n, 0, pk)) z I' D R ∧ rF I D R I' D R := by
  have hfit : fX2_fit w I L D R 1 x2 = some ((), I, L, D, R) := by unfold fX2_fit; rw [if_neg (by decide)]
  rw [hfit, qc_bds, h4, qc_WF_i hW (by decide), qc_gdt, cx_kd h8, qc_bds]
  obtain ⟨I1, e1, g1, f1⟩ := r_conv (w := w) (L := L) hW g h4 (by omega) hp hf (qw_kd_le h8)
  rw [h4] at e1
  rw [e1, qc_bds]
  have hcl := qs_cv_len f (qw_kd lane)
  have st2 : ∀ {I2 : qTI} {l2 : List (Nat × Nat)}, l2.length < 5000 → rG b ln len st (kU K 273 (l2, 2, pk)) z I2 D R → ∃ I3 : qTI, fX2_readSet_b128 w I2 L D R (nI lane) = some ((), I3, L, D, R) ∧ rG b ln len st (kU K 273 (l2 ++ [(20 + lane, n)], 0, pk)) z I3 D R ∧ rF I2 D R I3 D R := fun {I2 l2} hl2 g2 => by
    have hk := g2.1.2.2.2.2.2.2 273 (by decide)
    rw [kU_at] at hk
    obtain ⟨I3, e3, k3, f3⟩ := kC_add (w := w) (L := L) (D := D) (o := 20 + lane) (a := n) (h' := 0) hW g2.1.2.2.1 (by decide) hk (by omega) (by omega) (fun u => by have := qs_ij_of u; omega) (by rw [qh_m2 (by omega)]; exact (by decide : nI 2 + -2 = nI 0)) hl2 (Nat.zero_le _)
    have k3 : kC 273 (l2 ++ [(20 + lane, n)]) 0 pk I3 := by rw [Nat.max_zero] at k3; exact k3
    obtain ⟨g3, f4⟩ := rG_C (t := (l2 ++ [(20 + lane, n)], 0, pk)) (by decide) g2 f3 k3
    rw [kU_kU] at g3
    refine ⟨I3, ?_, g3, f4⟩
    unfold fX2_readSet_b128
    rw [h4, qc_WF_i hW (by decide), qc_gdt, g2.2.1.2.1, hz, show (20 : Int32) + nI lane = nI (20 + lane) from nI_add 20 lane, e3, qc_bds]
  have hl1 : (l ++ qs_cv f (qw_kd lane)).length < 4995 := by rw [List.length_append]; omega
  by_cases y : 1 ≤ lane ∧ lane ≤ 3
  · rw [if_neg (show ¬ nI lane < (1 : Int32) from fun u => by have := (qi_lt (b := 1) (by omega) (by decide)).mp u; omega), if_neg (show ¬ (3 : Int32) < nI lane from fun u => by have := (qi_lt (a := 3) (by decide) (by omega)).mp u; omega), h4, qc_WF_i hW (by decide), qc_gdt]
    have hk := g1.1.2.2.2.2.2.2 273 (by decide)
    rw [kU_at] at hk
    obtain ⟨I2, e2, k2, f2⟩ := kC_add0 (w := w) (L := L) (D := D) (o := 1650 + lane) (a := 0) hW g1.1.2.2.1 (by decide) hk (by omega) (by decide) (by show (l ++ qs_cv f (qw_kd lane)).length < 5000; omega) hp
    obtain ⟨g2, f4⟩ := rG_C (t := (l ++ qs_cv f (qw_kd lane) ++ [(1650 + lane, 0)], 2, pk)) (by decide) g1 f2 k2
    rw [kU_kU] at g2
    have e2 : fX0_add w I1 L D R 273 (nI (1650 + lane)) 0 = some ((), I2, L, D, R) := e2
    rw [show (1650 : Int32) + nI lane = nI (1650 + lane) from nI_add 1650 lane, e2, qc_bds]
    obtain ⟨I3, e3, g3, f3⟩ := st2 (by rw [List.length_append]; show _ + 1 < 5000; omega) g2
    refine ⟨I3, e3, ?_, rF_tr f1 (rF_tr f4 f3)⟩
    have : q_cs lane n = [(1650 + lane, 0)] ++ [(20 + lane, n)] := by unfold q_cs; rw [if_pos y]
    rw [this, ← List.append_assoc]
    exact g3
  · obtain ⟨I3, e3, g3, f3⟩ := st2 (by omega) g1
    have hcs : q_cs lane n = [(20 + lane, n)] := by unfold q_cs; rw [if_neg y, List.nil_append]
    rw [hcs]
    by_cases y1 : lane < 1
    · rw [if_pos (show nI lane < (1 : Int32) from (qi_lt (b := 1) (by omega) (by decide)).mpr y1)]
      exact ⟨I3, e3, g3, rF_tr f1 f3⟩
    · rw [if_neg (show ¬ nI lane < (1 : Int32) from fun u => y1 ((qi_lt (b := 1) (by omega) (by decide)).mp u)), if_pos (show (3 : Int32) < nI lane from (qi_lt (a := 3) (by decide) (by omega)).mpr (by omega))]
      exact ⟨I3, e3, g3, rF_tr f1 f3⟩
end
