/-! the class reads as the spec does: one lemma a tag -/
theorem qc_bd_id {α : Type} (out : qcO α) : qc_bd out (fun r I L D R => some (r, I, L, D, R)) = out := by
  cases out with
  | none => rfl
  | some q => rfl
theorem kz {k : Nat} (hk : k ≤ 4) : nI k = 0 ↔ k = 0 := qi_nI_inj' (j := 0) (by omega) (by decide)
theorem kz1 {k : Nat} (hk : k ≤ 4) : nI k = 1 ↔ k = 1 := qi_nI_inj' (j := 1) (by omega) (by decide)
def cB (b ln : Nat → Nat) (len c nc o : Nat) (st : qP) (l : List (Nat × Nat)) (h pk : Nat) (I : qTI) (D : qTD) (R : qTR) : Prop :=
  cT b ln len c I R ∧ cD b c st o l h pk I D R ∧ qs_G b len st ∧ o ≤ 12 ∧ l.length ≤ 6 * st.1 + 20 ∧ h ≤ st.1 + 10 ∧ pk ≤ st.1 + 10 ∧ h ≤ pk ∧ nc ≤ 200
def cA (w : qcW) (b ln : Nat → Nat) (len c n : Nat) : Prop :=
  (∀ nc o st l h pk I L D R, cB b ln len c nc o st l h pk I D R → 14 * (13 - o) + 6 ≤ nc → cV b c L o l h pk (2500 + 8 * nc) (qs_p b ln n 0 0 0 o (d_lf 0 []) st) I D R (fX2_rc w nc 0 0 I L D R)) ∧
  (∀ x nc o st l h pk I L D R, cB b ln len c nc o st l h pk I D R → 1 ≤ x → x ≤ 9 → 14 * (13 - o) + 5 ≤ nc + x → cV b c L o l h pk (2500 + 8 * nc) (qs_p b ln n 2 x 0 o (d_lf 0 []) st) I D R (fX2_rc w nc 2 (nI (x - 1)) I L D R)) ∧
  (∀ nc o st l h pk I L D R, cB b ln len c nc o st l h pk I D R → 14 * (13 - o) ≤ nc + 5 → cV b c L o l h pk (2500 + 8 * nc) (qs_p b ln n 4 0 0 o (d_lf 0 []) st) I D R (fX2_rc w nc 4 0 I L D R)) ∧
  (∀ nc o st l h pk I L D R, cB b ln len c nc o st l h pk I D R → 14 * (13 - o) ≤ nc + 6 → cV b c L o l h pk (2500 + 8 * nc) (qs_p b ln n 5 0 0 o (d_lf 0 []) st) I D R (fX2_rc w nc 5 0 I L D R)) ∧
  (∀ nc o st l h pk I L D R, cB b ln len c nc o st l h pk I D R → qt_m b st.1 = 3 → 14 * (13 - o) ≤ nc + 7 → cV b c L o l h pk (2500 + 8 * nc) (qs_p b ln n 6 0 0 o (d_lf 0 []) st) I D R (fX2_rc w nc 6 0 I L D R)) ∧
  (∀ nc o st l h pk I L D R, cB b ln len c nc o st l h pk I D R → 14 * (13 - o) ≤ nc + 7 → cV b c L o l h pk (2500 + 8 * nc) (qs_p b ln n 7 0 0 o (d_lf 0 []) st) I D R (fX2_rc w nc 7 0 I L D R)) ∧
  (∀ nc o d st l h pk I L D R, cB b ln len c nc o st (l ++ qs_sh l.length d.2.2.2) (h + 1) (max pk (h + d.2.1)) I D R → qs_D st.2.length d → qt_m b st.1 = 59 → 14 * (13 - o) ≤ nc + 7 → cV b c L o l h pk (2500 + 8 * nc) (qs_p b ln n 1 0 0 o d st) I D R (fX2_rc w nc 1 (nI d.1) I L D R)) ∧
  (∀ N i x y nc o d st l h pk I L D R, cB b ln len c nc o st (l ++ qs_sh l.length d.2.2.2) (h + 1) (max pk (h + d.2.1)) I D R → qs_D st.2.length d → 1 ≤ x → x ≤ 9 → 1 ≤ y → y ≤ 8 → i ≤ st.1 → 401 ≤ N + st.1 → 14 * (13 - o) + 4 ≤ nc + x → cV b c L o l h pk (2500 + 8 * (nc + 1)) (qs_p b ln n 3 x y o d st) I D R (fX2_joined_l39 w (fX2_rc w nc) N (I, L, D, R, nI (x - 1), nI (y - 1), nI d.1, nI i)))
theorem cA.sum {w : qcW} {b ln : Nat → Nat} {len c n : Nat} (h : cA w b ln len c n) : ∀ nc o st l h pk I L D R, cB b ln len c nc o st l h pk I D R → 14 * (13 - o) + 6 ≤ nc → cV b c L o l h pk (2500 + 8 * nc) (qs_p b ln n 0 0 0 o (d_lf 0 []) st) I D R (fX2_rc w nc 0 0 I L D R) := h.1
theorem cA.joined {w : qcW} {b ln : Nat → Nat} {len c n : Nat} (h : cA w b ln len c n) : ∀ x nc o st l h pk I L D R, cB b ln len c nc o st l h pk I D R → 1 ≤ x → x ≤ 9 → 14 * (13 - o) + 5 ≤ nc + x → cV b c L o l h pk (2500 + 8 * nc) (qs_p b ln n 2 x 0 o (d_lf 0 []) st) I D R (fX2_rc w nc 2 (nI (x - 1)) I L D R) := h.2.1
theorem cA.signed {w : qcW} {b ln : Nat → Nat} {len c n : Nat} (h : cA w b ln len c n) : ∀ nc o st l h pk I L D R, cB b ln len c nc o st l h pk I D R → 14 * (13 - o) ≤ nc + 5 → cV b c L o l h pk (2500 + 8 * nc) (qs_p b ln n 4 0 0 o (d_lf 0 []) st) I D R (fX2_rc w nc 4 0 I L D R) := h.2.2.1
theorem cA.part {w : qcW} {b ln : Nat → Nat} {len c n : Nat} (h : cA w b ln len c n) : ∀ nc o st l h pk I L D R, cB b ln len c nc o st l h pk I D R → 14 * (13 - o) ≤ nc + 6 → cV b c L o l h pk (2500 + 8 * nc) (qs_p b ln n 5 0 0 o (d_lf 0 []) st) I D R (fX2_rc w nc 5 0 I L D R) := h.2.2.2.1
theorem cA.cell {w : qcW} {b ln : Nat → Nat} {len c n : Nat} (h : cA w b ln len c n) : ∀ nc o st l h pk I L D R, cB b ln len c nc o st l h pk I D R → qt_m b st.1 = 3 → 14 * (13 - o) ≤ nc + 7 → cV b c L o l h pk (2500 + 8 * nc) (qs_p b ln n 6 0 0 o (d_lf 0 []) st) I D R (fX2_rc w nc 6 0 I L D R) := h.2.2.2.2.1
theorem cA.func {w : qcW} {b ln : Nat → Nat} {len c n : Nat} (h : cA w b ln len c n) : ∀ nc o st l h pk I L D R, cB b ln len c nc o st l h pk I D R → 14 * (13 - o) ≤ nc + 7 → cV b c L o l h pk (2500 + 8 * nc) (qs_p b ln n 7 0 0 o (d_lf 0 []) st) I D R (fX2_rc w nc 7 0 I L D R) := h.2.2.2.2.2.1
theorem cA.choice {w : qcW} {b ln : Nat → Nat} {len c n : Nat} (h : cA w b ln len c n) : ∀ nc o d st l h pk I L D R, cB b ln len c nc o st (l ++ qs_sh l.length d.2.2.2) (h + 1) (max pk (h + d.2.1)) I D R → qs_D st.2.length d → qt_m b st.1 = 59 → 14 * (13 - o) ≤ nc + 7 → cV b c L o l h pk (2500 + 8 * nc) (qs_p b ln n 1 0 0 o d st) I D R (fX2_rc w nc 1 (nI d.1) I L D R) := h.2.2.2.2.2.2.1
theorem cA.loop {w : qcW} {b ln : Nat → Nat} {len c n : Nat} (h : cA w b ln len c n) : ∀ N i x y nc o d st l h pk I L D R, cB b ln len c nc o st (l ++ qs_sh l.length d.2.2.2) (h + 1) (max pk (h + d.2.1)) I D R → qs_D st.2.length d → 1 ≤ x → x ≤ 9 → 1 ≤ y → y ≤ 8 → i ≤ st.1 → 401 ≤ N + st.1 → 14 * (13 - o) + 4 ≤ nc + x → cV b c L o l h pk (2500 + 8 * (nc + 1)) (qs_p b ln n 3 x y o d st) I D R (fX2_joined_l39 w (fX2_rc w nc) N (I, L, D, R, nI (x - 1), nI (y - 1), nI d.1, nI i)) := h.2.2.2.2.2.2.2
section
variable {w : qcW} {b ln : Nat → Nat} {len : Nat} {I I1 : qTI} {L : qTL} {D D1 : qTD} {R R1 : qTR} {c nc o h pk n : Nat} {l : List (Nat × Nat)} {st st1 : qP} {q : qDen × qP}
theorem cB_q (hc : c = 270 ∨ c = 273 ∨ c = 276) (hB : cB b ln len c nc o st l h pk I D R) (hf : fX c I D R I1 D1 R1) (hD : cD b c q.2 o (l ++ qs_sh l.length q.1.2.2.2) (h + 1) (max pk (h + q.1.2.1)) I1 D1 R1) (hq : qs_Q b len 0 st q) {nc' : Nat} (hn : nc' ≤ 200) : cB b ln len c nc' o q.2 (l ++ qs_sh l.length q.1.2.2.2) (h + 1) (max pk (h + q.1.2.1)) I1 D1 R1 := by
  obtain ⟨b1, b2, b3, b4, b5, b6, b7, b8, b9⟩ := hB
  obtain ⟨q1, ⟨d1, d2, d3, d4, d5, d6⟩, q3, q4⟩ := hq
  exact ⟨cT_fX hc b1 hf, hD, q1, b4, by rw [List.length_append, qs_sh_len]; omega, by omega, by omega, by omega, hn⟩
/-- the same code, a token further -/
theorem cB_s {o' nc' : Nat} (hc : c = 270 ∨ c = 273 ∨ c = 276) (hB : cB b ln len c nc o st l h pk I D R) (hf : fX c I D R I1 D1 R1) (hD : cD b c st1 o' l h pk I1 D1 R1) (hG : qs_G b len st1) (hs : st.1 ≤ st1.1) (ho : o' ≤ 12) (hn : nc' ≤ 200) : cB b ln len c nc' o' st1 l h pk I1 D1 R1 := by
  obtain ⟨b1, b2, b3, b4, b5, b6, b7, b8, b9⟩ := hB
  exact ⟨cT_fX hc b1 hf, hD, hG, ho, by omega, by omega, by omega, b8, hn⟩
theorem cB_m (hB : cB b ln len c nc o st l h pk I D R) {nc' : Nat} (hn : nc' ≤ 200) : cB b ln len c nc' o st l h pk I D R := ⟨hB.1, hB.2.1, hB.2.2.1, hB.2.2.2.1, hB.2.2.2.2.1, hB.2.2.2.2.2.1, hB.2.2.2.2.2.2.1, hB.2.2.2.2.2.2.2.1, hn⟩
theorem cB_l (hB : cB b ln len c nc o st l h pk I D R) (hb : qt_B b len) : l.length ≤ 2420 ∧ h ≤ 410 ∧ pk ≤ 410 := by
  have := hB.2.2.1.1
  have := hb.1
  obtain ⟨b1, b2, b3, b4, b5, b6, b7, b8, b9⟩ := hB
  omega
theorem cD_mk (hD : cD b c st o l h pk I D R) : R 268 1 = qt_m b st.1 := hD.1.2.2.2.1
theorem cD_f (hD : cD b c st o l h pk I D R) : I 268 2 = nI (qt_from b st.1) := hD.1.1
theorem cD_u (hD : cD b c st (o + 1) l h pk I D R) (hc : c = 270 ∨ c = 273 ∨ c = 276) : cD b c st o l h pk (qc_u I 267 6 (I 267 6 - 1)) D R := by
  rw [hD.2.1, show nI (o + 1) - 1 = nI o from qi_sub (a := o + 1) (b := 1) (by omega)]
  exact cD_o hD hc o
theorem cV_o {l' : List (Nat × Nat)} {h' pk' B o' : Nat} {r : qR (qDen × qP)} {v : Int32} {out : qcO Int32} (hv : cV b c L o' l' h' pk' B r (qc_u I 267 6 v) D R out) : cV b c L o' l' h' pk' B r I D R out := cV_fX (fX_o c I D R v) hv
theorem cV_mono {l' : List (Nat × Nat)} {h' pk' B B' o' : Nat} {r : qR (qDen × qP)} {out : qcO Int32} (hv : cV b c L o' l' h' pk' B r I D R out) (hB : B ≤ B') : cV b c L o' l' h' pk' B' r I D R out := fun h9 => by
  obtain ⟨k, I', D', R', a1, a2, a3, a4⟩ := hv h9
  refine ⟨k, I', D', R', a1, a2, a3, fun e z => ?_⟩
  obtain ⟨n', z1, z2, z3⟩ := a4 e z
  exact ⟨n', z1, z2, by omega⟩
theorem cV_idk {l' l1 : List (Nat × Nat)} {h' pk' B o' h1 pk1 B1 o1 : Nat} {r : qR (qDen × qP)} {out : qcO Int32} (hv : cV b c L o' l' h' pk' B r I D R out) : cV b c L o' l' h' pk' B r I D R (qc_bd out fun r I L D R => some (r, I, L, D, R)) := by rw [qc_bd_id]; exact hv
/-- tag 0 -/
theorem cA_sum (hc : c = 270 ∨ c = 273 ∨ c = 276) (hb : qt_B b len) (hln : ∀ c, c < 10 → ln c ≤ 8) (hA : cA w b ln len c n) (hB : cB b ln len c nc o st l h pk I D R) (hn : 14 * (13 - o) + 6 ≤ nc) : cV b c L o l h pk (2500 + 8 * nc) (qs_p b ln (n + 1) 0 0 0 o (d_lf 0 []) st) I D R (fX2_rc w nc 0 0 I L D R) := by
  obtain ⟨nc, rfl⟩ : ∃ k, nc = k + 1 := ⟨nc - 1, by omega⟩
  have hn2 := hB.2.2.2.2.2.2.2.2
  show cV b c L o l h pk _ (qs_sum b (qs_p b ln n) o st) I D R (fX2_sum w (fX2_rc w nc) I L D R)
  unfold qs_sum fX2_sum
  have hv := hA.joined 1 nc o st l h pk I L D R (cB_m hB (by omega)) (by decide) (by decide) (by omega)
  refine cV_bV (K := 0) hv (fun q I1 D1 R1 hr hf hD => ?_) (fun e k n' I1 D1 R1 hs h1 h2 => ?_) (Nat.le_refl _) (by omega)
  · have hq := ((qs_good hb hln n 2 1 0 o _ st q hr hB.2.2.1).1 (by decide) (by decide) ⟨fun _ => by decide, fun z => by omega⟩)
    have hB1 := cB_q hc hB hf hD hq (nc' := nc) (by omega)
    rw [cD_l hD hq.1, qc_gdt, cD_mk hD]
    by_cases z : qt_m b q.2.1 = 59
    · rw [if_pos z, if_pos z, qc_bd_id]
      exact cV_mono (hA.choice nc o q.1 q.2 l h pk I1 L D1 R1 hB1 hq.2.1 z (by omega)) (by omega)
    · rw [if_neg z, if_neg z]
      exact cV_some rfl hD
  · rw [eS_l hs, qc_gdt, eS_m hs, if_neg (by decide)]
    exact eU_some hs k
/-- not -/
theorem cA_den (hW : qc_WF w) (hc : c = 270 ∨ c = 273 ∨ c = 276) (hb : qt_B b len) (hln : ∀ c, c < 10 → ln c ≤ 8) (hA : cA w b ln len c n) (hB : cB b ln len c nc o st l h pk I D R) (h19 : qt_m b st.1 = 19) (hn : 14 * (13 - o) ≤ nc + 8) : cV b c L o l h pk (2500 + 8 * nc) (qs_b (qs_op1 b o st) fun st1 => qs_b (qs_adv b st1) fun st2 => qs_b (qs_p b ln n 2 3 0 (o + 1) (d_lf 0 []) st2) fun q => qs_fit (Nat.beq q.1.1 0) (qt_from b st.1) <| .inr (d_un 0 q.1.1 [(1810, 0)] q.1, q.2)) I D R (fX2_rc w nc 3 0 I L D R) := by
  have ho := hB.2.2.2.1
  obtain ⟨nc, rfl⟩ : ∃ k, nc = k + 1 := ⟨nc - 1, by omega⟩
  have hn2 := hB.2.2.2.2.2.2.2.2
  have hbl := cB_l hB hb
  show cV b c L o l h pk _ _ I D R (fX2_denied w (fX2_rc w nc) I L D R)
  unfold fX2_denied
  have tl : ∀ (v : Int32) e n' I1 D1 R1, eS c e n' I1 R1 → n' < 5000 → eU c e n' 1 I1 L D1 R1 (fX2_denied_b45 w (fX2_rc w nc) I1 L D1 R1 (I 268 2) v) := fun v e n' I1 D1 R1 hs hn' => by
    unfold fX2_denied_b45
    refine eU_bd (k := 0) (k2 := 1) (eU_fit hs _ _) (fun r I D R n2 hs h1 h2 => ?_)
    rw [hs.2.1, qc_WF_i hW hc, qc_gdt]
    exact eU_bd (k := 1) (k2 := 0) (eU_add hW hc hs (by omega) _ _) (fun r I D R n2 hs h1 h2 => eU_some hs _)
  have tl2 : ∀ (r6 : Int32) e n' I1 D1 R1, eS c e n' I1 R1 → n' < 5000 → eU c e n' 1 I1 L D1 R1 (if r6 = 0 then (fX2_denied_b45 w (fX2_rc w nc) (qc_u I1 267 6 ((I1 267 6) - (1 : Int32))) L D1 R1 (I 268 2) (1 : Int32)) else (fX2_denied_b45 w (fX2_rc w nc) (qc_u I1 267 6 ((I1 267 6) - (1 : Int32))) L D1 R1 (I 268 2) (0 : Int32))) := fun r6 e n' I1 D1 R1 hs hn' => by
    split
    · exact eU_o hc (tl _ e n' _ D1 R1 (eS_o hs hc _) hn')
    · exact eU_o hc (tl _ e n' _ D1 R1 (eS_o hs hc _) hn')
  refine cV_bU (K := 1) (cU_openOne hB.1 hc hB.2.1 ho) (fun st1 I1 D1 R1 hr hf hD => ?_) (fun e I1 D1 R1 hs => ?_) (Nat.le_refl _) (by omega)
  · obtain ⟨rfl, ho2⟩ := qs_op1_of hr
    have hT1 := cT_fX hc hB.1 hf
    refine cV_bU (K := 1) (cU_take hb hT1 hc hD hB.2.2.1) (fun st2 I2 D2 R2 hr2 hf2 hD2 => ?_) (fun e I1 D1 R1 hs => ?_) (Nat.le_refl _) (by omega)
    · obtain ⟨g1, g2, g3⟩ := qs_G_adv hb hB.2.2.1 (by omega) hr2
      have hB2 := cB_s (nc' := nc) hc hB (fX_tr hf hf2) hD2 g1 (by omega) (by omega) (by omega)
      have hv := hA.joined 3 nc (o + 1) st2 l h pk I2 L D2 R2 hB2 (by decide) (by decide) (by omega)
      refine cV_bV (K := 1) hv (fun q I3 D3 R3 hr3 hf3 hD3 => ?_) (fun e k n' I1 D1 R1 hs h1 h2 => tl2 k e n' I1 D1 R1 hs (by omega)) (Nat.le_refl _) (by omega)
      have hq := ((qs_good hb hln n 2 3 0 (o + 1) _ st2 q hr3 g1).1 (by decide) (by decide) ⟨fun _ => by decide, fun z => by omega⟩)
      have hB3 := cB_q hc hB2 hf3 hD3 hq (nc' := nc) (by omega)
      have hb3 := cB_l hB3 hb
      have hd4 := hq.2.1.1
      have hfin : ∀ v : Int32, v = (if Nat.beq q.1.1 0 = true then 1 else 0) → cV b c L o l h pk (2500 + 8 * (nc + 1)) (qs_fit (Nat.beq q.1.1 0) (qt_from b st1.1) (.inr (d_un 0 q.1.1 [(1810, 0)] q.1, q.2))) I3 D3 R3 (fX2_denied_b45 w (fX2_rc w nc) (qc_u I3 267 6 ((I3 267 6) - (1 : Int32))) L D3 R3 (I 268 2) v) := fun v hv => by
        have hD4 := cD_u hD3 hc
        have hT4 : cT b ln len c (qc_u I3 267 6 ((I3 267 6) - (1 : Int32))) R3 := cT_fX hc hB3.1 (fX_o c I3 D3 R3 _)
        refine cV_o (v := I3 267 6 - 1) ?_
        unfold fX2_denied_b45
        rw [cD_f hB.2.1]
        refine cV_fit (K := 1) (x := v) hT4 hc hD4 hv (fun hok => ?_) (fun e I1 D1 R1 hs => ?_) (by rw [List.length_append]; omega) (by omega)
        · have h0 : q.1.1 = 0 := Nat.eq_of_beq_eq_true hok
          rw [hT4.2.1, qc_WF_i hW hc, qc_gdt]
          obtain ⟨I5, e5, k5, f5⟩ := kC_add0 (w := w) (L := L) (D := D3) hW hT4.2.2.1 hc hD4.2.2.2 (o := 1810) (a := 0) (by omega) (by decide) (by omega) hB3.2.2.2.2.2.2.2.1
          have e5 : fX0_add w (qc_u I3 267 6 ((I3 267 6) - (1 : Int32))) L D3 R3 c 1810 0 = some ((), I5, L, D3, R3) := e5
          rw [e5, qc_bds]
          refine cV_fX (fX_C f5 D3 R3) (cV_some rfl ?_)
          refine cD_k hD4 hc f5 ?_
          rw [sh_un hd4 hd4 (qs_nj_1 (by omega)), show qs_cv q.1.1 q.1.1 = [] from if_pos rfl, List.append_nil]
          exact k5
        · rw [hs.2.1, qc_WF_i hW hc, qc_gdt]
          exact eU_bd (k := 1) (k2 := 0) (eU_add hW hc hs (by omega) _ _) (fun r I D R n2 hs h1 h2 => eU_some hs _)
      by_cases z : q.1.1 = 0
      · rw [if_pos ((kz hd4).mpr z)]
        exact hfin 1 (by rw [z]; rfl)
      · rw [if_neg (fun y => z ((kz hd4).mp y))]
        exact hfin 0 (by rw [if_neg (fun y => z (Nat.eq_of_beq_eq_true y))])
    · refine eU_bd (k := 0) (k2 := 1) (eU_rc2 hs (by omega) (by decide)) (fun r I D R n2 hs h1 h2 => tl2 r e n2 I D R hs (by omega))
  · refine eU_bd (k := 0) (k2 := 1) (eU_take hs) (fun r I D R n2 hs h1 h2 => ?_)
    exact eU_bd (k := 0) (k2 := 1) (eU_rc2 hs (by omega) (by decide)) (fun r I D R n3 hs h3 h4 => tl2 r e n3 I D R hs (by omega))
end
