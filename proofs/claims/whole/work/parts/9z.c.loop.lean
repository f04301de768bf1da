/-! the class reads as the spec does: one joint after the other -/
theorem jn_len (m : Nat) (x y : qDen) : (qs_join m x y).2.2.2.length ≤ x.2.2.2.length + y.2.2.2.length + 4 ∧ (qs_sv m ≤ 2 → (qs_join m x y).2.1 = max x.2.1 y.2.1) ∧ (¬ qs_sv m ≤ 2 → (qs_join m x y).2.1 = max x.2.1 (1 + y.2.1)) := by
  have hbi : ∀ k kx ky t, t.length ≤ 2 → (d_bi k kx ky t x y).2.2.2.length ≤ x.2.2.2.length + y.2.2.2.length + 4 := fun k kx ky t ht => by
    show ((x.2.2.2 ++ qs_cv x.1 kx) ++ qs_sh (x.2.2.2 ++ qs_cv x.1 kx).length (y.2.2.2 ++ qs_cv y.1 ky) ++ t).length ≤ _
    have h1 := qs_cv_len x.1 kx
    have h2 := qs_cv_len y.1 ky
    rw [List.length_append, List.length_append, qs_sh_len, List.length_append, List.length_append]
    omega
  unfold qs_join
  by_cases h1 : qs_sv m ≤ 2
  · rw [if_pos h1]
    refine ⟨?_, fun _ => rfl, fun z => absurd h1 z⟩
    show (x.2.2.2 ++ [(1800 + (if m = 20 then 1 else 0), x.2.2.2.length + 1 + y.2.2.2.length + 1)] ++ qs_sh (x.2.2.2.length + 1) y.2.2.2 ++ [(1802, x.2.2.2.length + 1 + y.2.2.2.length + 2), (1, (if m = 20 then 1 else 0))]).length ≤ _
    rw [List.length_append, List.length_append, List.length_append, qs_sh_len]
    show x.2.2.2.length + 1 + y.2.2.2.length + 2 ≤ _
    omega
  rw [if_neg h1]
  by_cases h2 : qs_sv m = 6
  · rw [if_pos h2]
    exact ⟨hbi _ _ _ _ (by show 1 ≤ 2; decide), fun z => absurd z h1, fun _ => rfl⟩
  rw [if_neg h2]
  by_cases h3 : qs_sv m = 4
  · rw [if_pos h3]
    exact ⟨hbi _ _ _ _ (Nat.le_refl 2), fun z => absurd z h1, fun _ => rfl⟩
  rw [if_neg h3]
  exact ⟨hbi _ _ _ _ (by show 1 ≤ 2; decide), fun z => absurd z h1, fun _ => rfl⟩
section
variable {w : qcW} {b ln : Nat → Nat} {len : Nat} {I I1 : qTI} {L : qTL} {D D1 : qTD} {R R1 : qTR} {c nc o h pk n : Nat} {l : List (Nat × Nat)} {st st1 : qP} {q : qDen × qP} {e : Nat × Nat}
/-- behind the second sum -/
def zL (w : qcW) (rc : qcRc) (N : Nat) (x1 x2 x3 x4 : Int32) (m : Nat) (x6 x7 r3 : Int32) (I : qTI) (L : qTL) (D : qTD) (R : qTR) : qcO Int32 :=
  qc_bd (fX2_fits w I L D R m x3 r3) fun r4 I4 L4 D4 R4 => qc_bd (fX2_fit w I4 L4 D4 R4 (qc_b r4) x6) fun r5 I5 L5 D5 R5 => if (1 : Int32) < (qc_mfV 0 m) then (qc_bd (fX2_joinValues w I5 L5 D5 R5 m x7 x3 r3) fun r7 I7 L7 D7 R7 => fX2_joined_b189 w rc (fX2_joined_l39 w rc N) I7 L7 D7 R7 x1 x2 x4 r7) else (qc_bd (fX2_joinTruths w I5 L5 D5 R5 m x7) fun r8 I8 L8 D8 R8 => fX2_joined_b189 w rc (fX2_joined_l39 w rc N) I8 L8 D8 R8 x1 x2 x4 r8)
theorem zL_124 {m : Nat} (hm : m < 62) (rc : qcRc) (N : Nat) (x1 x2 x3 x4 x6 x7 : Int32) : fX2_joined_b124 w rc (fX2_joined_l39 w rc N) I L D R x1 x2 x3 x4 m x6 x7 = qc_bd (fX9_take w I L D R) fun _ I L D R => qc_bd (rc 2 ((qc_mfV 0 m) + (1 : Int32)) I L D R) fun r I L D R => zL w rc N x1 x2 x3 x4 m x6 x7 r I L D R := by
  unfold fX2_joined_b124
  rw [show qc_l62 m = true from Nat.ble_eq.mpr hm, qc_gdt]
  rfl
theorem eU_189 (hs : eS c e n I R) {x1 : Int32} (hx : 0 ≤ x1) {N : Nat} (hN : 1 ≤ N) (rc : qcRc) (x2 x4 s : Int32) : eU c e n 0 I L D R (fX2_joined_b189 w rc (fX2_joined_l39 w rc N) I L D R x1 x2 x4 s) := by
  unfold fX2_joined_b189
  obtain ⟨N, rfl⟩ : ∃ k, N = k + 1 := ⟨N - 1, by omega⟩
  rw [eR_loop hs hx]
  exact eU_some hs _
theorem eU_zL (hW : qc_WF w) (hc : c = 270 ∨ c = 273 ∨ c = 276) (hs : eS c e n I R) (hn : n < 4900) {m j N : Nat} (hm : m < 62) (hj : j ≤ n) (hN : 1 ≤ N) {x1 : Int32} (hx : 0 ≤ x1) (rc : qcRc) (x2 x3 x4 x6 r3 : Int32) : eU c e n 4 I L D R (zL w rc N x1 x2 x3 x4 m x6 (nI j) r3 I L D R) := by
  unfold zL
  refine eU_bd (k := 0) (k2 := 4) (eU_fits hs hm _ _) (fun r I D R n2 hs h1 h2 => ?_)
  refine eU_bd (k := 0) (k2 := 4) (eU_fit hs _ _) (fun r I D R n2 hs h1 h2 => ?_)
  split
  · exact eU_bd (k := 4) (k2 := 0) (eU_jv hW hc hs (by omega) hm (by omega) _ _) (fun r I D R n2 hs h1 h2 => eU_189 hs hx hN _ _ _ _)
  · exact eU_mono (eU_bd (k := 2) (k2 := 0) (eU_jt hW hc hs (by omega) hm (by omega)) (fun r I D R n2 hs h1 h2 => eU_189 hs hx hN _ _ _ _)) (by decide)
theorem qc_b_if (r : Bool) : qc_b r = if r = true then 1 else 0 := by cases r <;> rfl
/-- tag 3 -/
theorem cA_loop (hW : qc_WF w) (hc : c = 270 ∨ c = 273 ∨ c = 276) (hb : qt_B b len) (hln : ∀ c, c < 10 → ln c ≤ 8) (hA : cA w b ln len c n) {N i x y : Nat} {d : qDen} (hB : cB b ln len c nc o st (l ++ qs_sh l.length d.2.2.2) (h + 1) (max pk (h + d.2.1)) I D R) (hd : qs_D st.2.length d) (hx1 : 1 ≤ x) (hx9 : x ≤ 9) (hy1 : 1 ≤ y) (hy8 : y ≤ 8) (hi : i ≤ st.1) (hN : 401 ≤ N + st.1) (hn : 14 * (13 - o) + 4 ≤ nc + x) : cV b c L o l h pk (2500 + 8 * (nc + 1)) (qs_p b ln (n + 1) 3 x y o d st) I D R (fX2_joined_l39 w (fX2_rc w nc) N (I, L, D, R, nI (x - 1), nI (y - 1), nI d.1, nI i)) := by
  have ho := hB.2.2.2.1
  have hn2 := hB.2.2.2.2.2.2.2.2
  have hbl := cB_l hB hb
  have hD0 := hB.2.1
  have hG0 := hB.2.2.1
  have hm62 : qt_m b st.1 < 62 := by have := qt_m_lt b st.1; have := hG0.2.1; omega
  have hs9 : qs_sv (qt_m b st.1) < 9 := by have := qs_sv_c (qt_m b st.1); omega
  have hp := hb.1
  have hp2 := hG0.1
  have hll : l.length ≤ (l ++ qs_sh l.length d.2.2.2).length := by rw [List.length_append]; omega
  have hd4 := hd.1
  have hdn := hd.2.2.1
  have h0x : (0 : Int32) ≤ nI (x - 1) := (qi_le (a := 0) (by decide) (by omega)).mpr (by omega)
  obtain ⟨N, rfl⟩ : ∃ k, N = k + 1 := ⟨N - 1, by omega⟩
  show cV b c L o l h pk _ (qs_loop b (qs_p b ln n) x y o d st) I D R _
  rw [fX2_joined_l39_s]
  unfold qs_loop fX2_joined_b39
  by_cases hj : x ≤ qs_sv (qt_m b st.1) ∧ qs_sv (qt_m b st.1) ≤ y
  · have hm0 : qt_m b st.1 ≠ 0 := fun z => by rw [z] at hj; have : qs_sv 0 = 0 := rfl; omega
    have hlt : st.1 < 400 := by
      have h1 := qt_pos hb hp2
      have h2 := h1.2.2.2 hG0.2.1 hm0
      have h3 := (h1.2.2.1 hG0.2.1).2
      have h4 := h1.1
      omega
    rw [if_neg (show ¬ (400 : Int32) ≤ nI i from fun y => by have := (qi_le (a := 400) (by decide) (by omega)).mp y; omega), cx_isJ hm62 (cD_mk hD0) ⟨hx1, by omega⟩ ⟨hy1, by omega⟩, qc_bds, decide_eq_true hj, if_pos rfl, if_pos hj, cD_l hD0 hG0, qc_gdt, cD_mk hD0, cD_f hD0]
    have hcl : ∀ F : Int32 → qcO Int32, (if qc_mfV 0 (qt_m b st.1) = 3 then F 2 else F (qc_mfV 0 (qt_m b st.1))) = F (nI ((if qs_sv (qt_m b st.1) = 4 then 3 else qs_sv (qt_m b st.1)) - 1)) := fun F => by
      rw [qc_mf_lv _ hm62]
      by_cases z : qs_sv (qt_m b st.1) = 4
      · rw [if_pos ((jt_3 _ hs9).1.mpr z), if_pos z]
        rfl
      · rw [if_neg (fun y => z ((jt_3 _ hs9).1.mp y)), if_neg z, show nI (qs_sv (qt_m b st.1)) - 1 = nI (qs_sv (qt_m b st.1) - 1) from qi_sub (a := qs_sv (qt_m b st.1)) (b := 1) (by omega)]
    rw [hcl (fun s => fX2_joined_b92 w (fX2_rc w nc) (fX2_joined_l39 w (fX2_rc w nc) N) I L D R (nI (x - 1)) (nI d.1) (nI i) (qt_m b st.1) (nI (qt_from b st.1)) s)]
    have hy' : 1 ≤ (if qs_sv (qt_m b st.1) = 4 then 3 else qs_sv (qt_m b st.1)) ∧ (if qs_sv (qt_m b st.1) = 4 then 3 else qs_sv (qt_m b st.1)) ≤ 8 := by split <;> omega
    generalize (if qs_sv (qt_m b st.1) = 4 then 3 else qs_sv (qt_m b st.1)) = y' at hy' ⊢
    have hlv := qc_mf_lv _ hm62
    have hlv1 : qc_mfV 0 (qt_m b st.1) + 1 = nI (qs_sv (qt_m b st.1) + 1 - 1) := by rw [hlv, Int32.sub_add_cancel]; rfl
    unfold fX2_joined_b92
    rw [show qc_l62 (qt_m b st.1) = true from Nat.ble_eq.mpr hm62, qc_gdt, hB.1.2.1, qc_WF_i hW hc, qc_gdt, qc_gdt, hD0.2.2.2.2.1]
    have h1f := (jt_3 _ hs9).2
    rw [← hlv] at h1f
    -- what follows when both are joined
    have hnext : ∀ (q : qDen × qP) I5 D5 R5, qs_Q b len 0 st q → st.1 + 1 + q.1.2.2.1 ≤ q.2.1 → qs_fits (qt_m b st.1) d.1 q.1.1 = true → cT b ln len c I5 R5 → cD b c q.2 o (l ++ qs_sh l.length (qs_join (qt_m b st.1) d q.1).2.2.2) (h + 1) (max pk (h + (qs_join (qt_m b st.1) d q.1).2.1)) I5 D5 R5 → cV b c L o l h pk (2500 + 8 * (nc + 1)) (qs_p b ln n 3 x y' o (qs_join (qt_m b st.1) d q.1) q.2) I5 D5 R5 (fX2_joined_b189 w (fX2_rc w nc) (fX2_joined_l39 w (fX2_rc w nc) N) I5 L D5 R5 (nI (x - 1)) (nI (y' - 1)) (nI i) (nI (qs_join (qt_m b st.1) d q.1).1)) := fun q I5 D5 R5 hq hsz hok hT hD5 => by
      unfold fX2_joined_b189
      rw [show nI i + 1 = nI (i + 1) from qi_s1 i]
      have hDj := D_join (m := qt_m b st.1) (by omega) (qs_Q_up hb hq.1 hd hq.2.2.1) hq.2.1 hok
      obtain ⟨j1, j2, j3⟩ := jn_len (qt_m b st.1) d q.1
      obtain ⟨q1, ⟨d1, d2, d3, d4, d5, d6⟩, q3, q4⟩ := hq
      have hb5 := hB.2.2.2.2.1
      rw [List.length_append, qs_sh_len] at hb5
      have hb6 := hB.2.2.2.2.2.1
      have hb7 := hB.2.2.2.2.2.2.1
      refine hA.loop N (i + 1) x y' nc o _ q.2 l h pk I5 L D5 R5 ⟨hT, hD5, q1, ho, ?_, by omega, ?_, ?_, hn2⟩ hDj hx1 hx9 hy'.1 hy'.2 (by omega) (by omega) (by omega)
      · rw [List.length_append, qs_sh_len]; omega
      · by_cases z : qs_sv (qt_m b st.1) ≤ 2
        · rw [j2 z]; omega
        · rw [j3 z]; omega
      · have := hDj.2.2.1.1
        omega
    by_cases hv3 : 3 ≤ qs_sv (qt_m b st.1)
    · rw [if_pos (h1f.mpr hv3), zL_124 hm62]
      refine cV_bU (K := 4) (cU_take hb hB.1 hc hD0 hG0) (fun st1 I1 D1 R1 hr1 hf1 hD1 => ?_) (fun e I1 D1 R1 hs => ?_) hll (by omega)
      · obtain ⟨g1, g2, g3⟩ := qs_G_adv hb hG0 hm0 hr1
        have hB1 := cB_s (nc' := nc) hc hB hf1 hD1 g1 (by omega) ho hn2
        rw [hlv1]
        have hv := hA.joined (qs_sv (qt_m b st.1) + 1) nc o st1 _ _ _ I1 L D1 R1 hB1 (by omega) (by omega) (by omega)
        refine cV_bV (K := 4) hv (fun q I2 D2 R2 hr2 hf2 hD2 => ?_) (fun e k n' I1 D1 R1 hs h1 h2 => eU_zL hW hc hs (by omega) hm62 h1 (by omega) h0x _ _ _ _ _ _) hll (by omega)
        have hq := ((qs_good hb hln n 2 _ 0 o _ st1 q hr2 g1).1 (by decide) (by decide) ⟨fun _ => by omega, fun z => by omega⟩)
        have hB2 := cB_q hc hB1 hf2 hD2 hq (nc' := nc) (by omega)
        have hb2 := cB_l hB2 hb
        have he4 := hq.2.1.1
        have hqn := hq.2.1.2.2.1
        have hll2 : (l ++ qs_sh l.length d.2.2.2).length ≤ ((l ++ qs_sh l.length d.2.2.2) ++ qs_sh (l ++ qs_sh l.length d.2.2.2).length q.1.2.2.2).length := by rw [List.length_append (as := l ++ qs_sh l.length d.2.2.2)]; omega
        unfold zL
        rw [cx_fits (by omega) hd4 he4, qc_bds]
        refine cV_fit (K := 4) hB2.1 hc hD2 (qc_b_if _) (fun hok => ?_) (fun e I1 D1 R1 hs => ?_) (by omega) (by omega)
        · rw [if_pos (h1f.mpr hv3)]
          obtain ⟨I3, e3, k3, f3⟩ := kX_jv (w := w) (L := L) (D := D2) (l := l) (x := d) (y := q.1) hW hB2.1.2.2.1 hc hB2.1.2.1 hm62 (by have := qs_sv_c (qt_m b st.1); omega) hd4 he4 hok hD0.2.2.2.2.2.2.2.1 (jf_D hq.2.1) rfl (jf_D hd) hD2.2.2.2 (by omega) (by omega)
          rw [e3, qc_bds]
          have hx3 := fX_C (c := c) f3 D2 R2
          refine cV_fX hx3 (hnext q I3 D2 R2 ⟨hq.1, hq.2.1, by rw [← g3]; exact hq.2.2.1, by have := hq.2.2.2; omega⟩ (by have := hq.2.2.2; omega) hok (cT_fX hc hB2.1 hx3) ?_)
          have hpk : max pk (h + (qs_join (qt_m b st.1) d q.1).2.1) = max (max pk (h + d.2.1)) (h + 1 + q.1.2.1) := by rw [(jn_len _ d q.1).2.2 (by omega)]; omega
          rw [hpk]
          exact cD_k hD2 hc f3 k3
        · split
          · exact eU_bd (k := 4) (k2 := 0) (eU_jv hW hc hs (by omega) hm62 hll2 _ _) (fun r I D R n2 hs h1 h2 => eU_189 hs h0x (by omega) _ _ _ _)
          · exact eU_mono (eU_bd (k := 2) (k2 := 0) (eU_jt hW hc hs (by omega) hm62 hll2) (fun r I D R n2 hs h1 h2 => eU_189 hs h0x (by omega) _ _ _ _)) (by decide)
      · rw [hlv1]
        exact eU_bd (k := 0) (k2 := 4) (eU_rc2 hs (by omega) ((qi_le (a := 0) (by decide) (by omega)).mpr (by omega))) (fun r I D R n2 hs h1 h2 => eU_zL hW hc hs (by omega) hm62 h1 (by omega) h0x _ _ _ _ _ _)
    · have hm2 : qt_m b st.1 = 20 ∨ qt_m b st.1 = 21 := by have := qs_sv_c (qt_m b st.1); omega
      rw [if_neg (fun y => hv3 (h1f.mp y)), (qc_mf_op _ hm62).1 hm2]
      have hv1 : (if qt_m b st.1 = 20 then 1 else 0) ≤ 1 := by split <;> omega
      have hjoin : qs_join (qt_m b st.1) = d_lg (if qt_m b st.1 = 20 then 1 else 0) := by funext x y; unfold qs_join; rw [if_pos (by omega)]
      obtain ⟨I0, e0, k0, f0⟩ := kC_addJ (w := w) (L := L) (D := D) hW hB.1.2.2.1 hc hD0.2.2.2 (o := 1800 + (if qt_m b st.1 = 20 then 1 else 0)) (h' := h) (by omega) (Or.inr ⟨by omega, rfl⟩) (by omega) (cB_p hB)
      rw [e0, qc_bds, zL_124 hm62]
      have hx0 := fX_C (c := c) f0 D R
      refine cV_fX hx0 ?_
      have hT0 := cT_fX hc hB.1 hx0
      have hD00 := cD_k hD0 hc f0 k0
      have hlp : (l ++ qs_sh l.length d.2.2.2 ++ [(1800 + (if qt_m b st.1 = 20 then 1 else 0), 0)]).length = (l ++ qs_sh l.length d.2.2.2).length + 1 := by rw [List.length_append]; rfl
      refine cV_bU (K := 4) (cU_take hb hT0 hc hD00 hG0) (fun st1 I1 D1 R1 hr1 hf1 hD1 => ?_) (fun e I1 D1 R1 hs => ?_) (by omega) (by omega)
      · obtain ⟨g1, g2, g3⟩ := qs_G_adv hb hG0 hm0 hr1
        have hb5 := hB.2.2.2.2.1
        have hb6 := hB.2.2.2.2.2.1
        have hb7 := hB.2.2.2.2.2.2.1
        have hB1 : cB b ln len c nc o st1 (l ++ qs_sh l.length d.2.2.2 ++ [(1800 + (if qt_m b st.1 = 20 then 1 else 0), 0)]) h (max pk (h + d.2.1)) I1 D1 R1 := ⟨cT_fX hc hT0 hf1, hD1, g1, ho, by omega, by omega, by omega, by omega, hn2⟩
        rw [hlv1]
        have hv := hA.joined (qs_sv (qt_m b st.1) + 1) nc o st1 _ _ _ I1 L D1 R1 hB1 (by omega) (by omega) (by omega)
        refine cV_bV (K := 4) hv (fun q I2 D2 R2 hr2 hf2 hD2 => ?_) (fun e k n' I1 D1 R1 hs h1 h2 => eU_zL hW hc hs (by omega) hm62 (by omega) (by omega) h0x _ _ _ _ _ _) (by omega) (by omega)
        have hq := ((qs_good hb hln n 2 _ 0 o _ st1 q hr2 g1).1 (by decide) (by decide) ⟨fun _ => by omega, fun z => by omega⟩)
        have hB2 := cB_q hc hB1 hf2 hD2 hq (nc' := nc) (by omega)
        have hb2 := cB_l hB2 hb
        have he4 := hq.2.1.1
        have hqn := hq.2.1.2.2.1
        have hll2 : (l ++ qs_sh l.length d.2.2.2).length ≤ ((l ++ qs_sh l.length d.2.2.2 ++ [(1800 + (if qt_m b st.1 = 20 then 1 else 0), 0)]) ++ qs_sh (l ++ qs_sh l.length d.2.2.2 ++ [(1800 + (if qt_m b st.1 = 20 then 1 else 0), 0)]).length q.1.2.2.2).length := by rw [List.length_append (as := l ++ qs_sh l.length d.2.2.2 ++ [(1800 + (if qt_m b st.1 = 20 then 1 else 0), 0)]), hlp]; omega
        unfold zL
        rw [cx_fits (by omega) hd4 he4, qc_bds]
        refine cV_fit (K := 4) hB2.1 hc hD2 (qc_b_if _) (fun hok => ?_) (fun e I1 D1 R1 hs => ?_) (by omega) (by omega)
        · rw [if_neg (fun y => hv3 (h1f.mp y))]
          have hk2 := hD2.2.2.2
          rw [List.append_assoc (l ++ qs_sh l.length d.2.2.2), List.singleton_append, hlp] at hk2
          rw [List.append_assoc (l ++ qs_sh l.length d.2.2.2), List.singleton_append, hlp] at hb2
          obtain ⟨I3, e3, k3, f3⟩ := kX_jt (w := w) (L := L) (D := D2) hW hB2.1.2.2.1 hc hB2.1.2.1 hm2 hk2 (by omega) (by omega)
          rw [e3, qc_bds]
          have hx3 := fX_C (c := c) f3 D2 R2
          have hk0 : (0 : Int32) = nI (qs_join (qt_m b st.1) d q.1).1 := by rw [hjoin]; rfl
          rw [hk0]
          refine cV_fX hx3 (hnext q I3 D2 R2 ⟨hq.1, hq.2.1, by rw [← g3]; exact hq.2.2.1, by have := hq.2.2.2; omega⟩ (by have := hq.2.2.2; omega) hok (cT_fX hc hB2.1 hx3) ?_)
          have hpk : max pk (h + (qs_join (qt_m b st.1) d q.1).2.1) = max (max pk (h + d.2.1)) (h + q.1.2.1) := by rw [(jn_len _ d q.1).2.1 (by omega)]; omega
          rw [hpk]
          refine cD_k hD2 hc f3 ?_
          have hcode : l ++ qs_sh l.length (qs_join (qt_m b st.1) d q.1).2.2.2 = (l ++ qs_sh l.length d.2.2.2) ++ (1800 + (if qt_m b st.1 = 20 then 1 else 0), (l ++ qs_sh l.length d.2.2.2).length + 1 + (qs_sh ((l ++ qs_sh l.length d.2.2.2).length + 1) q.1.2.2.2).length + 1) :: (qs_sh ((l ++ qs_sh l.length d.2.2.2).length + 1) q.1.2.2.2 ++ [(1802, (l ++ qs_sh l.length d.2.2.2).length + 1 + (qs_sh ((l ++ qs_sh l.length d.2.2.2).length + 1) q.1.2.2.2).length + 2), (1, if qt_m b st.1 = 20 then 1 else 0)]) := by
            rw [hjoin]
            generalize (if qt_m b st.1 = 20 then 1 else 0) = v at hv1
            show l ++ qs_sh l.length (d.2.2.2 ++ [(1800 + v, d.2.2.2.length + 1 + q.1.2.2.2.length + 1)] ++ qs_sh (d.2.2.2.length + 1) q.1.2.2.2 ++ [(1802, d.2.2.2.length + 1 + q.1.2.2.2.length + 2), (1, v)]) = _
            have s1 : ∀ a, qs_sh l.length [(1800 + v, a)] = [(1800 + v, a + l.length)] := fun a => by
              have : v = 0 ∨ v = 1 := by omega
              rcases this with rfl | rfl <;> rfl
            have s2 : ∀ a, qs_sh l.length [(1802, a), (1, v)] = [(1802, a + l.length), (1, v)] := fun a => rfl
            rw [qs_sh_app, qs_sh_app, qs_sh_app, qs_sh_sh, s1, s2, qs_sh_len, List.length_append, qs_sh_len]
            simp only [List.append_assoc, List.cons_append, List.nil_append]
            congr 3
            · congr 1; omega
            · rw [show d.2.2.2.length + 1 + l.length = l.length + d.2.2.2.length + 1 by omega]
              congr 3
              omega
          rw [hcode]
          exact k3
        · rw [if_neg (fun y => hv3 (h1f.mp y))]
          exact eU_mono (k := 2) (eU_bd (k := 2) (k2 := 0) (eU_jt hW hc hs (by omega) hm62 hll2) (fun r I D R n2 hs h1 h2 => eU_189 hs h0x (by omega) _ _ _ _)) (by decide)
      · rw [hlv1]
        exact eU_bd (k := 0) (k2 := 4) (eU_rc2 hs (by omega) ((qi_le (a := 0) (by decide) (by omega)).mpr (by omega))) (fun r I D R n2 hs h1 h2 => eU_zL hW hc hs (by omega) hm62 (by omega) (by omega) h0x _ _ _ _ _ _)
  · rw [if_neg hj]
    have hfin : cV b c L o l h pk (2500 + 8 * (nc + 1)) (.inr (d, st)) I D R (some (nI d.1, I, L, D, R)) := cV_some rfl hD0
    split
    · exact hfin
    · rw [cx_isJ hm62 (cD_mk hD0) ⟨hx1, by omega⟩ ⟨hy1, by omega⟩, qc_bds, decide_eq_false hj, if_neg (by decide)]
      exact hfin
end
