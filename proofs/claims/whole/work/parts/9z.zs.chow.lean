/-! the class reads how, set as the spec does -/
theorem q_hm_of {m : Nat} (h : q_hw m ≠ 5) : q_hm (q_hw m) = m := by
  unfold q_hw at h ⊢
  repeat' split
  all_goals first | (subst_vars; rfl) | (exfalso; simp_all)
section
variable {w : qcW} {b ln : Nat → Nat} {len c B sort : Nat} {I : qTI} {L : qTL} {D : qTD} {R : qTR} {st : qP} {K : qKs} {z : qZS} {x : qX}
theorem eO_98 (hW : qc_WF w) {e : Nat × Nat} (hB : B < 2 ^ 20) (h1 : eP 273 B e I R) (h8 : R 267 8 < 62) (v s0 : Int32) : eO (rE (B + 1) e) I L D R (fX2_readHow_b98 w I L D R v s0) := by
  unfold fX2_readHow_b98
  rw [eO_fit h1.1, qc_bds]
  have hl : qc_l62 (R 267 8) = true := Nat.ble_eq.mpr h8
  rw [hl, qc_gdt]
  split
  · unfold fX2_readHow_b134
    split
    · exact eO_I 9 v (eO_I 9 4 (eO_155 hW hB (eP_I (eP_I h1 9 v) 9 4) _))
    · exact eO_I 9 v (eO_I 9 2 (eO_155 hW hB (eP_I (eP_I h1 9 v) 9 2) _))
  · rw [qc_gdt]
    split
    · exact eO_I 9 v (eO_I 9 4 (eO_155 hW hB (eP_I (eP_I h1 9 v) 9 4) _))
    · exact eO_I 9 v (eO_155 hW hB (eP_I h1 9 v) _)
theorem r_155 (hW : qc_WF w) (hb : qt_B b len) {q : qDen × qP} (gQ : qs_Q b len 0 st q) (g1 : rG b ln len q.2 (kU K 273 (q.1.2.2.2, 1, q.1.2.1)) z I D R) (h4 : R 267 4 = 273) {t : Nat} (ht : t ≤ 4) (hz : z.1 = nI t) : ∃ I' : qTI, fX2_readHow_b155 w I L D R (nI q.1.1) = some ((), I', L, D, R) ∧ rG b ln len q.2 (kU K 273 (q.1.2.2.2 ++ qs_cv q.1.1 t, 1, q.1.2.1)) z I' D R ∧ rF I D R I' D R := by
  obtain ⟨n1, n2, n3, n4⟩ := r_len hb gQ
  obtain ⟨I2, e1, e2, e3⟩ := r_conv (w := w) (L := L) hW g1 h4 (by omega) n3 n2 ht
  refine ⟨I2, ?_, e2, e3⟩
  unfold fX2_readHow_b155
  rw [h4, qc_WF_i hW (by decide), qc_gdt, g1.2.1.1, hz]
  rw [h4] at e1
  rw [e1, qc_bds]
theorem q_want_le {h k : Nat} (hk : k ≤ 4) : q_want h k ≤ 4 := by
  unfold q_want
  repeat' split
  all_goals omega
theorem rU_sum8 (hW : qc_WF w) (hb : qt_B b len) (hln : ∀ c, c < 10 → ln c ≤ 8) (hc : c = 270 ∨ c = 273 ∨ c = 276) (h : rG b ln len st K z I D R) (hK : K c = ([], 0, 0)) :
    rU (fun q k I D R => k = nI q.1.1 ∧ rG b ln len q.2 (kU K c (q.1.2.2.2, 1, q.1.2.1)) z I D R ∧ R 267 4 = c ∧ qs_Q b len 0 st q) (fun e I' R' => eP c 5000 e I' R' ∧ R' 267 8 = R 267 8) L (qs_p b ln qN 0 0 0 0 (d_lf 0 []) st) I D R (fX2_rc w 200 0 0 I L D (qc_u R 267 4 c)) := by
  obtain ⟨v, I1, D1, R1, a1, a2, a3, a4⟩ := rU_sum0 (w := w) (L := L) hW hb hln hc h hK (Or.inl ⟨rfl, rfl⟩)
  refine ⟨v, I1, D1, R1, a1, a2, a3, fun e y => ⟨a4 e y, ?_⟩⟩
  obtain ⟨k, I', D', R', b1, b2, -⟩ := r_sum (w := w) (L := L) hW hb hln hc h.1 h.2.2 hK (Nat.zero_le _) (Nat.le_refl _) (Nat.zero_le _) (tag := 0) (x := 0) (Or.inl ⟨rfl, rfl⟩)
  rw [b1] at a1
  cases a1
  exact (b2.2.2 267 8 (by decide)).trans (qc_u_ne _ _ (Or.inr (by decide)))
theorem r_66 (hW : qc_WF w) (hb : qt_B b len) (hln : ∀ c, c < 10 → ln c ≤ 8) (h : rT b ln len 1 (x, st) I D R) (hx : x.2.1 = none) (h0 : qt_m b st.1 ≠ 0) (hh : 1 ≤ x.2.2.2.2.2.1 ∧ x.2.2.2.2.2.1 ≤ 4) : rU (fun s (_ : Unit) I D R => rT b ln len 1 s I D R) (rE 5001) L (qs_b (qs_adv b st) fun st1 => q_main b ln qN x st1) I D R (fX2_readHow_b66 w I L D R) := by
  obtain ⟨K, hG, hK⟩ := h
  have hK0 := rK_1 hK hx
  have hm : R 267 8 = q_hm x.2.2.2.2.2.1 := hG.2.1.2.2.2.2.2
  have h62 : q_hm x.2.2.2.2.2.1 < 62 := by
    unfold q_hm
    repeat' split
    all_goals decide
  obtain ⟨u, I1, D1, R1, a1, a2, a3, a4⟩ := r_take (w := w) (L := L) hb hG h0
  have e66 : fX2_readHow_b66 w I L D R = qc_bd (fX2_rc w 200 0 0 I1 L D1 (qc_u R1 267 4 273)) fun r10 I10 L10 D10 R10 => if r10 = 0 then (fX2_readHow_b98 w I10 L10 D10 R10 r10 (0 : Int32)) else (fX2_readHow_b98 w I10 L10 D10 R10 r10 (1 : Int32)) := by
    unfold fX2_readHow_b66
    rw [a1, qc_bds]
  refine rU_tr a2 ?_
  rw [e66]
  cases hr : qs_adv b st with
  | inl e =>
    have he := a4 e hr
    have h1 := eP_c he 273
    rw [qs_be]
    refine rU_e (eO_c (c := 273) ?_)
    rw [eO_rc0 (by decide) h1, qc_bds, if_pos rfl]
    refine eO_98 hW (by decide) h1 ?_ _ _
    -- how is kept
    have : R1 267 8 = R 267 8 := by
      obtain ⟨I', D', R', e1, e2, e3, e4, -⟩ := cx_tk (w := w) (L := L) (D := D) (R := R) hb hG.1.1 hG.1.2.2.2.1.2.2.1 hG.1.2.2.2.1.2.1 ((qt_pos hb hG.2.2.1).2.2.1 hG.2.2.2.1).2
      rw [e1] at a1
      cases a1
      exact e4 267 8 (by decide)
    rw [qc_u_ne _ _ (Or.inr (by decide)), this, hm]
    exact h62
  | inr st1 =>
    have g0 := a3 st1 hr
    rw [qs_bi]
    unfold q_main
    refine rU_bd (rU_sum8 hW hb hln (by decide) g0 hK0) (fun q k I1 D1 R1 hr hp => ?_) (fun e v I2 D2 R2 he => ?_)
    · obtain ⟨hk, g1, g4, gQ⟩ := hp
      rw [i_01 hk gQ.2.1.1 (fun v => fX2_readHow_b98 w I1 L D1 R1 k v)]
      unfold fX2_readHow_b98
      rw [rG_f g1]
      have hm1 : R1 267 8 = q_hm x.2.2.2.2.2.1 := g1.2.1.2.2.2.2.2
      refine rU_fit g1 rfl (fun hok => ?_) (fun e I2 D2 R2 he o1 o2 => ?_)
      · rw [hm1, show qc_l62 (q_hm x.2.2.2.2.2.1) = true from Nat.ble_eq.mpr h62, qc_gdt, qc_gdt]
        have k5 := gQ.2.1.1
        have fin : ∀ {I2 : qTI}, rG b ln len q.2 (kU K 273 (q.1.2.2.2, 1, q.1.2.1)) (nI (q_want x.2.2.2.2.2.1 q.1.1), (q_z 1 x).2) I2 D1 R1 → rU (fun s (_ : Unit) I D R => rT b ln len 1 s I D R) (rE 5001) L (.inr ((x.1, some q.1, x.2.2), q.2)) I2 D1 R1 (fX2_readHow_b155 w I2 L D1 R1 (nI q.1.1)) := fun {I2} g2 => by
          obtain ⟨I3, e1, e2, e3⟩ := r_155 (w := w) (L := L) hW hb gQ g2 g4 (q_want_le k5) rfl
          rw [e1]
          refine rU_tr e3 (rU_some ⟨_, e2, ?_, ⟨1, fun u => (by cases u), ?_⟩, ?_⟩)
          · rw [kU_ne _ _ (by decide)]; exact hK.1
          · rw [kU_at]; rfl
          · rw [kU_ne _ _ (by decide)]; exact hK.2.2
        unfold fX2_readHow_b134
        rw [hk]
        rcases (show x.2.2.2.2.2.1 = 1 ∨ x.2.2.2.2.2.1 = 2 ∨ x.2.2.2.2.2.1 = 3 ∨ x.2.2.2.2.2.1 = 4 by omega) with y | y | y | y
        · rw [y, if_pos (by rfl)]
          rw [y] at fin
          by_cases y2 : q.1.1 ≤ 2
          · rw [if_neg (fun u => by have := (qi_lt (a := 2) (by decide) (by omega)).mp u; omega)]
            have hw2 : q_want 1 q.1.1 = 2 := by unfold q_want; rw [if_pos rfl, if_pos y2]
            rw [hw2] at fin
            exact rU_tr (rF_tr (rF_I 9 _) (rF_I 9 _)) (fin (rG_9 (rG_9 g1 _) 2))
          · rw [if_pos (show (2 : Int32) < nI q.1.1 from (qi_lt (a := 2) (by decide) (by omega)).mpr (by omega))]
            have hw2 : q_want 1 q.1.1 = 4 := by unfold q_want; rw [if_pos rfl, if_neg y2]
            rw [hw2] at fin
            exact rU_tr (rF_tr (rF_I 9 _) (rF_I 9 _)) (fin (rG_9 (rG_9 g1 _) 4))
        · rw [y, if_neg (by decide), if_neg (by decide)]
          rw [y] at fin
          exact rU_tr (rF_I 9 _) (fin (rG_9 g1 _))
        · rw [y, if_neg (by decide), if_neg (by decide)]
          rw [y] at fin
          exact rU_tr (rF_I 9 _) (fin (rG_9 g1 _))
        · rw [y, if_neg (by decide), if_pos (by rfl)]
          rw [y] at fin
          exact rU_tr (rF_tr (rF_I 9 _) (rF_I 9 _)) (fin (rG_9 (rG_9 g1 _) 4))
      · have h := eO_98 (L := L) (D := D2) hW (by decide) (⟨he, (o2 4).trans g4⟩ : eP 273 5000 e I2 R2) (by rw [o2 8, hm1]; exact h62) k 1
        unfold fX2_readHow_b98 at h
        rw [eO_fit he, qc_bds] at h
        exact h
    · have h8 : R2 267 8 < 62 := by
        rw [he.2, g0.2.1.2.2.2.2.2]
        exact h62
      have : ∀ v s0, eO (rE 5001 e) I2 L D2 R2 (fX2_readHow_b98 w I2 L D2 R2 v s0) := fun v s0 => eO_98 hW (by decide) he.1 h8 v s0
      split
      · exact this v 0
      · exact this v 1
end
