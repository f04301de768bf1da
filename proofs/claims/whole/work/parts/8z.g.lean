/-! an object visited by both -/
section
variable {w : qcW} {L0 : Nat → Int64} {D0 : Nat → UInt64} {L1 : Nat → Int64} {D1 : Nat → UInt64} {rc : Int32} {nr q m n0 : Nat} {op0 ar0 : Nat → Int32} {C S : qcM}
theorem qx_F_rf (hN : qx_N S) (h69 : S.1 291 69 = 0) (hW : qx_W L0 D0 L1 D1 rc m C S) (h4 : C.1 280 4 = (S.2.1 291 70).toInt32) : qx_F L0 D0 L1 D1 rc m C S true C S :=
  ⟨⟨fun _ _ _ _ _ => rfl, fun _ _ _ => rfl, fun _ _ _ => rfl, rfl⟩, ⟨fun _ _ _ _ => rfl, fun _ _ _ _ _ _ => rfl, fun _ _ _ _ => rfl, rfl⟩, hN, hW, h4, fun _ => ⟨h69, ⟨rfl, rfl, rfl, rfl⟩, rfl, rfl⟩, fun z => by cases z⟩
theorem qx_visit {x2 : Int32} {P : qcM → qcM → Prop} (hr0 : n0 = 0 ∨ 0 < n0 ∧ qw_wf nr n0 op0 ar0 [0]) (hs0 : ∀ k l, k < n0 → l < 8 → op0 k ≠ nI (20 + l)) (hc0 : qx_cd w 0 q n0 op0 ar0 C S) (hre : qx_re w nr q C S) (hN : qx_N S) (h69 : S.1 291 69 = 0) (hW : qx_W L0 D0 L1 D1 rc m C S) (h4 : C.1 280 4 = (S.2.1 291 70).toInt32) (hn0 : n0 ≤ 200) (hend : ¬ S.1 291 0 ≤ S.1 291 71)
    (hgo : ∀ C1 S1, qx_F L0 D0 L1 D1 rc m C S true C1 S1 → ∃ (b : Bool) (C' S' : qcM) (m' : Nat), fX4_visit_b35 w C1.1 C1.2.1 C1.2.2.1 C1.2.2.2 = some (b, C') ∧ fX12_goesOn w S1.1 S1.2.1 S1.2.2.1 S1.2.2.2 x2 = some (b, S') ∧ qx_Y L0 D0 L1 D1 rc m' C1 S1 b C' S' ∧ m' ≤ m + 1 ∧ (b = true → P C' S'))
    (hsk : ∀ C1 S1, qx_F L0 D0 L1 D1 rc m C S true C1 S1 → P C1 S1) :
    ∃ (b : Bool) (C' S' : qcM) (m' : Nat), fX4_visit w C.1 C.2.1 C.2.2.1 C.2.2.2 = some (b, C') ∧ (∀ k139, fX12_run_b139 w k139 S.1 S.2.1 S.2.2.1 S.2.2.2 (nI q) x2 = fX12_run_b230 w k139 S'.1 S'.2.1 S'.2.2.1 S'.2.2.2 (nI q) x2 (if b = true then 1 else 0)) ∧ qx_Y L0 D0 L1 D1 rc m' C S b C' S' ∧ m' ≤ m + 1 ∧ (b = true → P C' S') := by
  have hq : q < 12 := hre.2.2.2.2.2.1
  obtain ⟨⟨k1, k2, k3, k4, k5, k6, k7, k8⟩, b0, k9, k10, k11, k12, k13, k14, k15, k16, k17⟩ := id hc0
  have e3 : (3 : Int32) * nI q = nI (3 * q) := by rw [show (3 : Int32) = nI 3 by decide, qi_mul]
  have hsz : fX7_size w C.1 C.2.1 C.2.2.1 C.2.2.2 (C.2.2.2 286 3) 0 = some (nI n0, C.1, C.2.1, C.2.2.1, C.2.2.2) := fx_size (p := 0) k1 k6 k8 (by decide) k14 k15
  have i36 : qc_inb (nI (3 * q)) 36 = true := qi_inbN (by omega) (by decide)
  have c36 : (nI (3 * q)).toNatClampNeg = 3 * q := nI_clamp (by omega)
  have d10 : ¬ (1 : Int32) = 0 := by decide
  unfold fX4_visit
  rw [k1, qc_gdt, hsz, qc_bds]
  unfold fX12_run_b139 fX12_run_b169
  simp only [if_neg hend, e3, i36, qc_gdt, c36, show S.1 317 (3 * q) = nI n0 from k17]
  by_cases hn : n0 = 0
  · subst hn
    obtain ⟨b, C', S', m', g1, g2, g3, g4, g5⟩ := hgo C S (qx_F_rf hN h69 hW h4)
    rw [if_pos (show nI 0 ≤ 0 by decide), g1]
    refine ⟨b, C', S', m', rfl, fun k139 => ?_, g3, g4, g5⟩
    rw [if_pos (show nI 0 = 0 by decide)]
    unfold fX12_run_b174 fX12_run_b201 fX12_run_b206 fX12_run_b225 fX12_run_b229
    rw [if_neg d10, e3, i36, qc_gdt, c36, show S.1 317 (3 * q) = nI 0 from k17, if_pos (show nI 0 = 0 by decide), if_neg d10, if_neg d10, g2, qx_bdS]
    cases b <;> rfl
  · have hr0 : 0 < n0 ∧ qw_wf nr n0 op0 ar0 [0] := by
      rcases hr0 with z | z
      · exact absurd z hn
      · exact z
    have hle : ¬ nI n0 ≤ 0 := fun z => by have := (qi_le (b := 0) (by omega) (by decide)).mp z; omega
    have hne : ¬ nI n0 = 0 := fun z => by have := qi_nI_inj (j := 0) (by omega) (by decide) z; omega
    obtain ⟨b, C1, S1, m', e1, e2, e3', e4, e5, e6⟩ := qx_part (L0 := L0) (D0 := D0) (L1 := L1) (D1 := D1) (rc := rc) (p := 0) (by decide) (Or.inr hr0) (fun k l hk hl ho => absurd ho (hs0 k l hk hl)) hc0 hre hN h69 hW h4
    have hm : m' = m := by
      rcases e3' with z | ⟨_, k, l, z1, z2, z3⟩
      · exact z
      · exact absurd z3 (hs0 k l z1 z2)
    subst hm
    have e5 := e5 hn
    have z0 : nI 0 = (0 : Int32) := rfl
    rw [z0] at e1 e5
    rw [if_neg hle, e1, qx_bdS]
    simp only [if_neg hne, e5, qx_bdS]
    cases b
    · rw [if_neg (by decide)]
      refine ⟨false, C1, S1, m', rfl, fun k139 => ?_, qx_Y_F e2, by omega, fun z => by cases z⟩
      rw [if_neg (by decide), if_neg (by decide)]
      unfold fX12_run_b174 fX12_run_b205 fX12_run_b206 fX12_run_b229
      rw [if_pos rfl, if_pos rfl]
    · obtain ⟨f1, f2⟩ := e6 rfl
      obtain ⟨v1, v2⟩ := (f2 0 rfl).1 (by decide)
      have h317 : S1.1 317 (3 * q) = nI n0 := (e2.2.1.1 317 (3 * q) (by omega) (by omega)).trans k17
      have e2' := qx_F_h e2 (nI 0)
      rw [if_pos rfl, cx_take1 f1, qc_bds]
      by_cases hv : C1.2.1 288 0 = 0
      · rw [if_pos ((lg_cmp_eq _ _).mpr hv)]
        refine ⟨true, _, S1, m', rfl, fun k139 => ?_, qx_Y_F e2', by omega, fun _ => hsk _ _ e2'⟩
        rw [if_pos rfl, if_pos rfl]
        unfold fX12_run_b174 fX12_run_b205 fX12_run_b206 fX12_run_b225
        rw [if_neg d10, e3, i36, qc_gdt, c36, h317, if_neg hne, show Int32.toNatClampNeg (0 : Int32) = 0 from rfl, if_pos ((lg_cmp_eq _ _).mpr (v1.symm.trans hv)), if_neg d10, if_pos rfl]
      · rw [if_neg (fun z => hv ((lg_cmp_eq _ _).mp z))]
        obtain ⟨b, C', S', m'', g1, g2, g3, g4, g5⟩ := hgo _ S1 e2'
        rw [g1]
        refine ⟨b, C', S', m'', rfl, fun k139 => ?_, qx_FY e2' g3, g4, g5⟩
        rw [if_pos rfl]
        unfold fX12_run_b174 fX12_run_b201 fX12_run_b206 fX12_run_b225 fX12_run_b229
        rw [if_neg d10, e3, i36, qc_gdt, c36, h317, if_neg hne, show Int32.toNatClampNeg (0 : Int32) = 0 from rfl, if_neg (fun z => hv (v1.trans ((lg_cmp_eq _ _).mp z))), if_neg d10, if_neg d10, g2, qx_bdS]
        cases b <;> rfl
end
