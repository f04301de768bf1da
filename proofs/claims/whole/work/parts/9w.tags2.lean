/-! the class reads as the spec does: signed, part, cell -/
section
variable {w : qcW} {b ln : Nat → Nat} {len : Nat} {I I1 : qTI} {L : qTL} {D D1 : qTD} {R R1 : qTR} {c nc o h pk n : Nat} {l : List (Nat × Nat)} {st st1 : qP} {q : qDen × qP}
theorem eU_wh {e : Nat × Nat} {n : Nat} (h : eS c e n I R) (x : Int32) : eU c e n 0 I L D R (fX2_isWhole w I L D R x) := by
  unfold fX2_isWhole
  split
  · exact eU_some h _
  · split <;> exact eU_some h _
theorem cB_p (hB : cB b ln len c nc o st l h pk I D R) : h ≤ pk := hB.2.2.2.2.2.2.2.1
/-- tag 4 -/
theorem cA_signed (hW : qc_WF w) (hc : c = 270 ∨ c = 273 ∨ c = 276) (hb : qt_B b len) (hln : ∀ c, c < 10 → ln c ≤ 8) (hA : cA w b ln len c n) (hB : cB b ln len c nc o st l h pk I D R) (hn : 14 * (13 - o) ≤ nc + 5) : cV b c L o l h pk (2500 + 8 * nc) (qs_p b ln (n + 1) 4 0 0 o (d_lf 0 []) st) I D R (fX2_rc w nc 4 0 I L D R) := by
  have ho := hB.2.2.2.1
  obtain ⟨nc, rfl⟩ : ∃ k, nc = k + 1 := ⟨nc - 1, by omega⟩
  have hn2 := hB.2.2.2.2.2.2.2.2
  have hbl := cB_l hB hb
  show cV b c L o l h pk _ (qs_signed b (qs_p b ln n) o st) I D R (fX2_signed w (fX2_rc w nc) I L D R)
  unfold qs_signed fX2_signed
  rw [cD_l hB.2.1 hB.2.2.1, qc_gdt, cD_mk hB.2.1]
  by_cases hm : qt_m b st.1 = 49 ∨ qt_m b st.1 = 53
  · rw [if_pos hm]
    have hcl : (if qt_m b st.1 = 49 then (fX2_signed_b27 w (fX2_rc w nc) I L D R (qt_m b st.1)) else (if qt_m b st.1 = 53 then (fX2_signed_b27 w (fX2_rc w nc) I L D R (qt_m b st.1)) else (qc_bd (fX2_rc w nc 5 0 I L D R) fun r17 I17 L17 D17 R17 => some (r17, I17, L17, D17, R17)))) = fX2_signed_b27 w (fX2_rc w nc) I L D R (qt_m b st.1) := by
      rcases hm with z | z
      · rw [if_pos z]
      · rw [if_neg (by omega), if_pos z]
    rw [hcl]
    have hl62 : qc_l62 (qt_m b st.1) = true := Nat.ble_eq.mpr (by omega)
    unfold fX2_signed_b27
    rw [hl62, qc_gdt]
    have tl : ∀ (k v : Int32) e n' I1 D1 R1, eS c e n' I1 R1 → n' < 5000 → eU c e n' 1 I1 L D1 R1 (fX2_signed_b85 w (fX2_rc w nc) I1 L D1 R1 (qt_m b st.1) (I 268 2) k v) := fun k v e n' I1 D1 R1 hs hn' => by
      unfold fX2_signed_b85 fX2_signed_b109
      rw [hl62, qc_gdt]
      refine eU_bd (k := 0) (k2 := 1) (eU_fit hs _ _) (fun r I D R n2 hs h1 h2 => ?_)
      rw [hs.2.1, qc_WF_i hW hc, qc_gdt, qc_gdt, qc_gdt]
      split
      · exact eU_bd (k := 1) (k2 := 0) (eU_add hW hc hs (by omega) _ _) (fun r I D R n2 hs h1 h2 => eU_some hs _)
      · exact eU_bd (k := 1) (k2 := 0) (eU_add hW hc hs (by omega) _ _) (fun r I D R n2 hs h1 h2 => eU_some hs _)
    have tl2 : ∀ (r10 : Int32) e n' I1 D1 R1, eS c e n' I1 R1 → n' < 5000 → eU c e n' 1 I1 L D1 R1 (if qt_m b st.1 = 49 then (if r10 = 0 then (fX2_signed_b85 w (fX2_rc w nc) (qc_u I1 267 6 ((I1 267 6) - (1 : Int32))) L D1 R1 (qt_m b st.1) (I 268 2) r10 (0 : Int32)) else (fX2_signed_b85 w (fX2_rc w nc) (qc_u I1 267 6 ((I1 267 6) - (1 : Int32))) L D1 R1 (qt_m b st.1) (I 268 2) r10 (1 : Int32))) else (qc_bd (fX2_isWhole w (qc_u I1 267 6 ((I1 267 6) - (1 : Int32))) L D1 R1 r10) fun r12 I12 L12 D12 R12 => fX2_signed_b85 w (fX2_rc w nc) I12 L12 D12 R12 (qt_m b st.1) (I 268 2) r10 (qc_b r12))) := fun r10 e n' I1 D1 R1 hs hn' => by
      refine eU_o hc (v := I1 267 6 - 1) ?_
      split
      · split
        · exact tl _ _ e n' _ D1 R1 (eS_o hs hc _) hn'
        · exact tl _ _ e n' _ D1 R1 (eS_o hs hc _) hn'
      · refine eU_bd (k := 0) (k2 := 1) (eU_wh (eS_o hs hc _) _) (fun r I D R n2 hs h1 h2 => tl _ _ e n2 I D R hs (by omega))
    refine cV_bU (K := 1) (cU_openOne hB.1 hc hB.2.1 ho) (fun st1 I1 D1 R1 hr hf hD => ?_) (fun e I1 D1 R1 hs => ?_) (Nat.le_refl _) (by omega)
    · obtain ⟨rfl, ho2⟩ := qs_op1_of hr
      have hT1 := cT_fX hc hB.1 hf
      refine cV_bU (K := 1) (cU_take hb hT1 hc hD hB.2.2.1) (fun st2 I2 D2 R2 hr2 hf2 hD2 => ?_) (fun e I1 D1 R1 hs => ?_) (Nat.le_refl _) (by omega)
      · obtain ⟨g1, g2, g3⟩ := qs_G_adv hb hB.2.2.1 (by omega) hr2
        have hB2 := cB_s (nc' := nc) hc hB (fX_tr hf hf2) hD2 g1 (by omega) (by omega) (by omega)
        have hv := hA.signed nc (o + 1) st2 l h pk I2 L D2 R2 hB2 (by omega)
        refine cV_bV (K := 1) hv (fun q I3 D3 R3 hr3 hf3 hD3 => ?_) (fun e k n' I1 D1 R1 hs h1 h2 => tl2 k e n' I1 D1 R1 hs (by omega)) (Nat.le_refl _) (by omega)
        have hq := ((qs_good hb hln n 4 0 0 (o + 1) _ st2 q hr3 g1).1 (by decide) (by decide) ⟨fun z => by omega, fun z => by omega⟩)
        have hB3 := cB_q hc hB2 hf3 hD3 hq (nc' := nc) (by omega)
        have hb3 := cB_l hB3 hb
        have hd4 := hq.2.1.1
        have hD4 := cD_u hD3 hc
        have hT4 : cT b ln len c (qc_u I3 267 6 ((I3 267 6) - (1 : Int32))) R3 := cT_fX hc hB3.1 (fX_o c I3 D3 R3 _)
        have hfin : ∀ v : Int32, v = (if (if qt_m b st1.1 = 49 then !(Nat.beq q.1.1 0) else qs_wh q.1.1) = true then 1 else 0) → cV b c L o l h pk (2500 + 8 * (nc + 1)) (qs_fit (if qt_m b st1.1 = 49 then !(Nat.beq q.1.1 0) else qs_wh q.1.1) (qt_from b st1.1) (.inr (d_un q.1.1 q.1.1 [((if qt_m b st1.1 = 49 then 1200 else 1300) + q.1.1, 0)] q.1, q.2))) (qc_u I3 267 6 ((I3 267 6) - (1 : Int32))) D3 R3 (fX2_signed_b85 w (fX2_rc w nc) (qc_u I3 267 6 ((I3 267 6) - (1 : Int32))) L D3 R3 (qt_m b st1.1) (I 268 2) (nI q.1.1) v) := fun v hv => by
          unfold fX2_signed_b85 fX2_signed_b109
          rw [cD_f hB.2.1, hl62, qc_gdt]
          refine cV_fit (K := 1) (x := v) hT4 hc hD4 hv (fun hok => ?_) (fun e I1 D1 R1 hs => ?_) (by rw [List.length_append]; omega) (by omega)
          · rw [hT4.2.1, qc_WF_i hW hc, qc_gdt, qc_gdt, qc_gdt]
            have hop : ∀ p : Nat, p = 1200 ∨ p = 1300 → cV b c L o l h pk (2500 + 8 * (nc + 1)) (.inr (d_un q.1.1 q.1.1 [(p + q.1.1, 0)] q.1, q.2)) (qc_u I3 267 6 ((I3 267 6) - (1 : Int32))) D3 R3 (qc_bd (fX0_add w (qc_u I3 267 6 ((I3 267 6) - (1 : Int32))) L D3 R3 c (nI p + nI q.1.1) 0) fun r2 I2 L2 D2 R2 => some (nI q.1.1, I2, L2, D2, R2)) := fun p hp => by
              obtain ⟨I5, e5, k5, f5⟩ := kC_add0 (w := w) (L := L) (D := D3) hW hT4.2.2.1 hc hD4.2.2.2 (o := p + q.1.1) (a := 0) (by omega) (by decide) (by omega) (cB_p hB3)
              have e5 : fX0_add w (qc_u I3 267 6 ((I3 267 6) - (1 : Int32))) L D3 R3 c (nI (p + q.1.1)) 0 = some ((), I5, L, D3, R3) := e5
              rw [nI_add, e5, qc_bds]
              refine cV_fX (fX_C f5 D3 R3) (cV_some rfl ?_)
              refine cD_k hD4 hc f5 ?_
              rw [sh_un hd4 hd4 (qs_nj_1 (by omega)), show qs_cv q.1.1 q.1.1 = [] from if_pos rfl, List.append_nil]
              exact k5
            by_cases z : qt_m b st1.1 = 49
            · rw [if_pos z, if_pos z]
              exact hop 1200 (by decide)
            · rw [if_neg z, if_neg z]
              exact hop 1300 (by decide)
          · rw [hs.2.1, qc_WF_i hW hc, qc_gdt, qc_gdt, qc_gdt]
            split
            · exact eU_bd (k := 1) (k2 := 0) (eU_add hW hc hs (by omega) _ _) (fun r I D R n2 hs h1 h2 => eU_some hs _)
            · exact eU_bd (k := 1) (k2 := 0) (eU_add hW hc hs (by omega) _ _) (fun r I D R n2 hs h1 h2 => eU_some hs _)
        refine cV_o (v := I3 267 6 - 1) ?_
        by_cases z : qt_m b st1.1 = 49
        · have hcl2 : ∀ A B : qcO Int32, (if qt_m b st1.1 = 49 then A else B) = A := fun A B => if_pos z
          rw [hcl2]
          by_cases z0 : q.1.1 = 0
          · rw [if_pos ((kz hd4).mpr z0)]
            exact hfin 0 (by rw [if_pos z, z0]; rfl)
          · rw [if_neg (fun y => z0 ((kz hd4).mp y))]
            exact hfin 1 (by rw [if_pos z, show Nat.beq q.1.1 0 = false from Bool.eq_false_iff.mpr (fun y => z0 (Nat.eq_of_beq_eq_true y))]; rfl)
        · have hcl2 : ∀ A B : qcO Int32, (if qt_m b st1.1 = 49 then A else B) = B := fun A B => if_neg z
          rw [hcl2, cx_wh hd4, qc_bds]
          refine hfin _ ?_
          rw [if_neg z]
          cases qs_wh q.1.1 <;> rfl
      · refine eU_bd (k := 0) (k2 := 1) (eU_rc4 hs (by omega)) (fun r I D R n2 hs h1 h2 => tl2 r e n2 I D R hs (by omega))
    · refine eU_bd (k := 0) (k2 := 1) (eU_take hs) (fun r I D R n2 hs h1 h2 => ?_)
      exact eU_bd (k := 0) (k2 := 1) (eU_rc4 hs (by omega)) (fun r I D R n3 hs h3 h4 => tl2 r e n3 I D R hs (by omega))
  · rw [if_neg hm, if_neg (fun z => hm (Or.inl z)), if_neg (fun z => hm (Or.inr z)), qc_bd_id]
    exact cV_mono (hA.part nc o st l h pk I L D R (cB_m hB (by omega)) (by omega)) (by omega)
end
