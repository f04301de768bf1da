/-! the class reads as the spec does: parts, cells -/
section
variable {w : qcW} {b ln : Nat → Nat} {len : Nat} {I I1 : qTI} {L : qTL} {D D1 : qTD} {R R1 : qTR} {c nc o h pk n : Nat} {l : List (Nat × Nat)} {st st1 : qP} {q : qDen × qP}
theorem cU_take0 (hB : qt_B b len) (hT : cT b ln len c I R) (hc : c = 270 ∨ c = 273 ∨ c = 276) (hD : cD b c st o l h pk I D R) (hG : st.1 ≤ len ∧ qt_m b st.1 ≠ 63) : cU b c L o (qs_adv b st) l h pk I D R (fX9_take w I L D R) := by
  obtain ⟨⟨a1, a2, a3, a4, a5, a6⟩, d2, ⟨d3, d3'⟩, d4⟩ := hD
  obtain ⟨p1, p2, p3, p4⟩ := qt_pos hB hG.1
  obtain ⟨I', D', R', e1, e2, e3, e4, e5, e6⟩ := cx_tk (w := w) (L := L) (D := D) (R := R) hB hT.1 a3 a2 (p3 hG.2).2
  have hf : fX c I D R I' D' R' := ⟨fun x k h1 _ _ _ _ => e2 x k h1, fun x h1 _ => funext fun k => e3 x k h1, e4⟩
  refine ⟨I', D', R', e1, hf, fun st' z => ?_, fun e z => ?_⟩
  · obtain ⟨z1, z2⟩ := qs_adv_of z
    subst z1
    refine ⟨e5 z2, by rw [e2 267 6 (by decide)]; exact d2, ⟨by rw [e2 267 5 (by decide)]; exact d3, fun i v hv => by rw [e3 279 i (by decide)]; exact d3' i v hv⟩, kC_co d4 (fun k _ _ => e2 c k (by omega)) (funext fun k => e2 _ k (by omega)) (funext fun k => e2 _ k (by omega))⟩
  · unfold qs_adv at z
    split at z
    · rename_i hz
      cases z
      exact ⟨e6 hz, (e4 267 4 (by decide)).trans hT.2.1, fX_FR hf hT.2.2.1, by rw [e2 c 2 (by omega)]; exact d4.2.1⟩
    · cases z
/-- one act, then the next token -/
theorem cX_laid (hW : qc_WF w) (hc : c = 270 ∨ c = 273 ∨ c = 276) (hb : qt_B b len) (hT : cT b ln len c I R) (hD : cD b c st o l h pk I D R) (hG : st.1 ≤ len ∧ qt_m b st.1 ≠ 63) (hl : l.length ≤ 2420 ∧ h ≤ 410 ∧ pk ≤ 410) {p a k B : Nat} (hp : p < 10) (ha : a < 2147483648) (hB : 2430 ≤ B) : cV b c L o l h pk B (qs_lay b (d_lf k [(p, a)]) st) I D R (fX2_laid w I L D R (nI p) (nI a) (nI k)) := by
  unfold qs_lay fX2_laid
  rw [hT.2.1, qc_WF_i hW hc, qc_gdt]
  obtain ⟨I1, e1, k1, f1⟩ := kC_add1 (w := w) (L := L) (D := D) hW hT.2.2.1 hc hD.2.2.2 hp ha (by omega) (by omega)
  rw [e1, qc_bds]
  have hx := fX_C (c := c) f1 D R
  refine cV_fX hx ?_
  have hD1 := cD_k hD hc f1 k1
  have hT1 := cT_fX hc hT hx
  refine cV_bU (K := 0) (cU_take0 hb hT1 hc hD1 hG) (fun st2 I2 D2 R2 hr2 hf2 hD2 => ?_) (fun e I1 D1 R1 hs => eU_some hs _) (by rw [List.length_append]; omega) (by rw [List.length_append]; show l.length + 1 + 0 ≤ B; omega)
  refine cV_some rfl ?_
  have : qs_sh l.length [(p, a)] = [(p, a)] := qs_sh_nj (qs_nj_1 (by omega)) _
  show cD b c st2 o (l ++ qs_sh l.length [(p, a)]) (h + 1) (max pk (h + 1)) I2 D2 R2
  rw [this]
  exact hD2
theorem cX_real (hc : c = 270 ∨ c = 273 ∨ c = 276) (hb : qt_B b len) (hT : cT b ln len c I R) (hD : cD b c st o l h pk I D R) (hG : qs_G b len st) (h2 : qt_m b st.1 = 2) : ∃ I' D', fX2_keepReal w I L D R = some (nI st.2.length, I', L, D', R) ∧ fX c I D R I' D' R ∧ cD b c (st.1, st.2 ++ [qt_r b st.1]) o l h pk I' D' R := by
  obtain ⟨⟨a1, a2, a3, a4, a5, a6⟩, d2, ⟨d3, d3'⟩, d4⟩ := hD
  have hlen : st.2.length < 100 := by
    have h1 := (qs_J_real hb hG.1 hG.2.2 h2 0).2
    have h3 := qt_pos hb hG.1
    have := hb.1
    have := (h3.2.2.1 hG.2.1).1
    have hz : st.2.length ≤ 100 := by omega
    by_cases z : st.2.length = 100
    · exfalso
      have : qt_from b st.1 = 400 := by omega
      have h5 : len = 400 := by omega
      have : qt_m b st.1 = 0 := by unfold qt_m; rw [if_pos (by rw [this]; exact hb.2.2 400 (by omega))]
      omega
    · omega
  unfold fX2_keepReal fX2_keepReal_b35
  rw [d3, if_neg (show ¬ (100 : Int32) ≤ nI st.2.length from fun y => by have := (qi_le (a := 100) (by decide) (by omega)).mp y; omega), qc_inb_nI hlen (by decide), qc_gdt, nI_clamp (by omega), a6 h2, qi_s1]
  have n : ∀ k, qc_u I 267 5 (nI (st.2.length + 1)) 268 k = I 268 k := fun k => qc_u_ne _ _ (Or.inl (by decide))
  refine ⟨qc_u I 267 5 (nI (st.2.length + 1)), qc_u D 279 st.2.length (qt_r b st.1), by rw [qc_u_at, show nI (st.2.length + 1) - 1 = nI st.2.length from qi_sub (a := st.2.length + 1) (b := 1) (by omega)], ⟨fun x k _ _ _ _ hx => qc_u_ne _ _ (by omega), fun x _ hx => qc_u_off _ _ hx, fun _ _ _ => rfl⟩, ⟨(n 2).trans a1, (n 3).trans a2, (n 6).trans a3, a4, fun z => (n 4).trans (a5 z), fun z => (qc_u_ne _ _ (Or.inl (by decide))).trans (a6 z)⟩, (qc_u_ne _ _ (Or.inr (by decide))).trans d2, ⟨by rw [qc_u_at, List.length_append]; rfl, fun i v hv => ?_⟩, kC_co d4 (fun k _ _ => qc_u_ne _ _ (Or.inl (by omega))) (qc_u_off _ _ (by omega)) (qc_u_off _ _ (by omega))⟩
  by_cases z : i < st.2.length
  · rw [qc_u_ne _ _ (Or.inr (by omega))]
    exact d3' i v (qs_apL hv z)
  · have h1 := qs_apR hv (by omega)
    have h2 := qs_ltl h1
    have h3 : i = st.2.length := by
      have : i - st.2.length < 1 := h2
      omega
    subst h3
    rw [qc_u_at]
    rw [Nat.sub_self] at h1
    cases h1
    rfl
/-- tag 5 -/
theorem cA_part (hW : qc_WF w) (hc : c = 270 ∨ c = 273 ∨ c = 276) (hb : qt_B b len) (hln : ∀ c, c < 10 → ln c ≤ 8) (hA : cA w b ln len c n) (hB : cB b ln len c nc o st l h pk I D R) (hn : 14 * (13 - o) ≤ nc + 6) : cV b c L o l h pk (2500 + 8 * nc) (qs_p b ln (n + 1) 5 0 0 o (d_lf 0 []) st) I D R (fX2_rc w nc 5 0 I L D R) := by
  have ho := hB.2.2.2.1
  obtain ⟨nc, rfl⟩ : ∃ k, nc = k + 1 := ⟨nc - 1, by omega⟩
  have hn2 := hB.2.2.2.2.2.2.2.2
  have hbl := cB_l hB hb
  have hD0 := hB.2.1
  show cV b c L o l h pk _ (qs_part b (qs_p b ln n) o st) I D R (fX2_part w (fX2_rc w nc) I L D R)
  unfold qs_part fX2_part
  rw [cD_l hB.2.1 hB.2.2.1, qc_gdt, cD_mk hB.2.1, qc_bd_id, qc_bd_id, qc_bd_id, qc_bd_id]
  by_cases m1 : qt_m b st.1 = 1
  · rw [if_pos m1, if_pos m1, hD0.1.2.2.2.2.1 (Or.inl m1)]
    exact cX_laid hW hc hb hB.1 hD0 ⟨hB.2.2.1.1, hB.2.2.1.2.1⟩ hbl (p := 1) (k := 1) (by decide) (qt_num hb m1).1 (by omega)
  rw [if_neg m1, if_neg m1]
  by_cases m2 : qt_m b st.1 = 2
  · rw [if_pos m2, if_pos m2]
    obtain ⟨I1, D1, e1, f1, hD1⟩ := cX_real (w := w) (L := L) hc hb hB.1 hD0 hB.2.2.1 m2
    rw [e1, qc_bds, qc_bd_id]
    refine cV_fX f1 ?_
    have hnr := qs_G_nr hb hB.2.2.1
    exact cX_laid (st := (st.1, st.2 ++ [qt_r b st.1])) hW hc hb (cT_fX hc hB.1 f1) hD1 ⟨hB.2.2.1.1, hB.2.2.1.2.1⟩ hbl (p := 2) (k := 4) (by decide) (by omega) (by omega)
  rw [if_neg m2, if_neg m2]
  by_cases m16 : qt_m b st.1 = 16
  · rw [if_pos m16, if_pos m16]
    exact cX_laid hW hc hb hB.1 hD0 ⟨hB.2.2.1.1, hB.2.2.1.2.1⟩ hbl (p := 3) (a := 0) (k := 1) (by decide) (by decide) (by omega)
  rw [if_neg m16, if_neg m16]
  unfold fX2_part_b76 fX2_part_b90
  by_cases m17 : qt_m b st.1 = 17
  · rw [if_pos m17, if_pos m17, show qc_l62 (qt_m b st.1) = true from Nat.ble_eq.mpr (by omega), qc_gdt, if_pos m17, qc_bd_id]
    exact cX_laid hW hc hb hB.1 hD0 ⟨hB.2.2.1.1, hB.2.2.1.2.1⟩ hbl (p := 1) (a := 1) (k := 0) (by decide) (by decide) (by omega)
  rw [if_neg m17, if_neg m17]
  by_cases m18 : qt_m b st.1 = 18
  · rw [if_pos m18, if_pos m18, show qc_l62 (qt_m b st.1) = true from Nat.ble_eq.mpr (by omega), qc_gdt, if_neg m17, qc_bd_id]
    exact cX_laid hW hc hb hB.1 hD0 ⟨hB.2.2.1.1, hB.2.2.1.2.1⟩ hbl (p := 1) (a := 0) (k := 0) (by decide) (by decide) (by omega)
  rw [if_neg m18, if_neg m18]
  by_cases m3 : qt_m b st.1 = 3
  · rw [if_pos m3, if_pos m3]
    exact cV_mono (hA.cell nc o st l h pk I L D R (cB_m hB (by omega)) m3 (by omega)) (by omega)
  rw [if_neg m3, if_neg m3]
  by_cases m54 : qt_m b st.1 = 54
  · rw [if_pos m54, if_pos m54]
    have tl : ∀ (k : Int32) e n' I1 D1 R1, eS c e n' I1 R1 → eU c e n' 0 I1 L D1 R1 (qc_bd (fX2_expect w I1 L D1 R1 55) fun r15 I15 L15 D15 R15 => some (k, (qc_u I15 267 6 ((I15 267 6) - (1 : Int32))), L15, D15, R15)) := fun k e n' I1 D1 R1 hs => eU_bd (k := 0) (k2 := 0) (eU_expect hs (by decide) (by decide)) (fun r I D R n2 hs h1 h2 => eU_o hc (v := I 267 6 - 1) (eU_some (eS_o hs hc _) _))
    refine cV_bU (K := 0) (cU_openOne hB.1 hc hB.2.1 ho) (fun st1 I1 D1 R1 hr hf hD => ?_) (fun e I1 D1 R1 hs => ?_) (Nat.le_refl _) (by omega)
    · obtain ⟨rfl, ho2⟩ := qs_op1_of hr
      have hT1 := cT_fX hc hB.1 hf
      refine cV_bU (K := 0) (cU_take hb hT1 hc hD hB.2.2.1) (fun st2 I2 D2 R2 hr2 hf2 hD2 => ?_) (fun e I1 D1 R1 hs => ?_) (Nat.le_refl _) (by omega)
      · obtain ⟨g1, g2, g3⟩ := qs_G_adv hb hB.2.2.1 (by omega) hr2
        have hB2 := cB_s (nc' := nc) hc hB (fX_tr hf hf2) hD2 g1 (by omega) (by omega) (by omega)
        have hv := hA.sum nc (o + 1) st2 l h pk I2 L D2 R2 hB2 (by omega)
        refine cV_bV (K := 0) hv (fun q I3 D3 R3 hr3 hf3 hD3 => ?_) (fun e k n' I1 D1 R1 hs h1 h2 => tl k e n' I1 D1 R1 hs) (Nat.le_refl _) (by omega)
        have hq := ((qs_good hb hln n 0 0 0 (o + 1) _ st2 q hr3 g1).1 (by decide) (by decide) ⟨fun z => by omega, fun z => by omega⟩)
        have hB3 := cB_q hc hB2 hf3 hD3 hq (nc' := nc) (by omega)
        have hb3 := cB_l hB3 hb
        refine cV_bU (K := 0) (cU_expect hb hB3.1 hc hD3 hq.1 (by decide)) (fun st3 I4 D4 R4 hr4 hf4 hD4 => ?_) (fun e I1 D1 R1 hs => eU_o hc (v := I1 267 6 - 1) (eU_some (eS_o hs hc _) _)) (by rw [List.length_append]; omega) (by omega)
        exact cV_o (v := I4 267 6 - 1) (cV_some rfl (cD_u hD4 hc))
      · exact eU_bd (k := 0) (k2 := 0) (eU_rc0 hs (by omega)) (fun r I D R n3 hs h3 h4 => tl r e n3 I D R hs)
    · refine eU_bd (k := 0) (k2 := 0) (eU_take hs) (fun r I D R n2 hs h1 h2 => ?_)
      exact eU_bd (k := 0) (k2 := 0) (eU_rc0 hs (by omega)) (fun r I D R n3 hs h3 h4 => tl r e n3 I D R hs)
  rw [if_neg m54, if_neg m54]
  exact cV_mono (hA.func nc o st l h pk I L D R (cB_m hB (by omega)) (by omega)) (by omega)
end
