/-! an object that is taken, with both -/
theorem qx_bdS {α β : Type} (r : α) (S : qcM) (f : α → qTI → qTL → qTD → qTR → qcO β) : qc_bd (some (r, S)) f = f r S.1 S.2.1 S.2.2.1 S.2.2.2 := rfl
section
variable {w : qcW} {I : qTI} {L : qTL} {D : qTD} {R : qTR} {q n1 n2 : Nat}
theorem mx_goesOn (x1 : Int32) (hq : q < 12) (h72 : I 291 72 = nI q) (hn : n1 ≤ 200) (h317 : I 317 (3 * q + 1) = nI n1) : fX12_goesOn w I L D R x1 = if n1 = 0 then fX12_goesOn_b36 w I L D R x1 0 else (qc_bd (fX12_works w I L D R (1 : Int32)) fun r15 I15 L15 D15 R15 => if r15 = true then (fX12_goesOn_b36 w I15 L15 D15 R15 x1 1) else (some (false, I15, L15, D15, R15))) := by
  have e : (3 : Int32) * nI q + 1 = nI (3 * q + 1) := by rw [show (3 : Int32) = nI 3 by decide, qi_mul, qi_s1]
  unfold fX12_goesOn fX12_goesOn_b21
  rw [h72, e, qi_inbN (by omega) (by decide), qc_gdt, nI_clamp (by omega), h317]
  by_cases h : n1 = 0
  · subst h
    rw [if_pos (show nI 0 ≤ 0 by decide), if_pos rfl, if_pos rfl]
  · rw [if_neg (fun z => by have := (qi_le (b := 0) (by omega) (by decide)).mp z; omega), if_neg h, if_neg (show ¬ (1 : Int32) = 0 by decide)]
theorem mx_b81 (x3 : UInt64) (s0 : Int64) (hq : q < 12) (h72 : I 291 72 = nI q) (hn : n2 ≤ 200) (h317 : I 317 (3 * q + 2) = nI n2) : fX12_goesOn_b81 w I L D R 1 x3 s0 = if n2 = 0 then fX12_folds w I L D R 0 s0 x3 else (qc_bd (fX12_works w I L D R (2 : Int32)) fun r4 I4 L4 D4 R4 => if r4 = true then fX12_folds w I4 L4 D4 R4 (L4 328 0) s0 x3 else (some (false, I4, L4, D4, R4))) := by
  have e : (3 : Int32) * nI q + 2 = nI (3 * q + 2) := by rw [show (3 : Int32) = nI 3 by decide, show (2 : Int32) = nI 2 by decide, qi_mul, nI_add]
  unfold fX12_goesOn_b81
  rw [if_neg (show ¬ (1 : Int32) = 0 by decide), h72, e, qi_inbN (by omega) (by decide), qc_gdt, nI_clamp (by omega), h317]
  by_cases h : n2 = 0
  · subst h
    rw [if_pos (show nI 0 = 0 by decide), if_pos rfl]
    cases fX12_folds w I L D R 0 s0 x3 with
    | none => rfl
    | some z => rfl
  · rw [if_neg (fun z => by have := qi_nI_inj (j := 0) (by omega) (by decide) z; omega), if_neg h]
    congr 1
    funext r4 I4 L4 D4 R4
    split
    · show (qc_bd (fX12_folds w I4 L4 D4 R4 (L4 328 0) s0 x3) _) = fX12_folds w I4 L4 D4 R4 (L4 328 0) s0 x3
      cases fX12_folds w I4 L4 D4 R4 (L4 328 0) s0 x3 with
      | none => rfl
      | some z =>
        obtain ⟨b, I5, L5, D5, R5⟩ := z
        rw [qc_bds]
        cases b <;> rfl
    · rfl
end
section
variable {w : qcW} {L0 : Nat → Int64} {D0 : Nat → UInt64} {L1 : Nat → Int64} {D1 : Nat → UInt64} {rc : Int32} {nr q m n1 n2 : Nat} {op1 ar1 op2 ar2 : Nat → Int32} {C S : qcM}
theorem qx_goF {c t h : Nat} {hw : Int32} {r1 r2 : List Nat} (h338 : 338 ≤ C.2.2.2 286 3) (hk6 : C.1 (C.2.2.2 286 3) 6 = nI c) (h9 : C.2.2.2 (C.2.2.2 286 3) 4 = 9)
    (hr1 : n1 = 0 ∧ r1 = [] ∧ c = 2 ∨ 0 < n1 ∧ r1 = [c] ∧ qw_wf nr n1 op1 ar1 r1) (hs1 : ∀ k l, k < n1 → l < 8 → op1 k ≠ nI (20 + l)) (hr2 : n2 = 0 ∧ r2 = [] ∨ 0 < n2 ∧ qw_wf nr n2 op2 ar2 r2 ∧ (r2 = [1] ∨ r2 = [2])) (hs2 : ∀ k l, k < n2 → l < 8 → op2 k ≠ nI (20 + l)) (hn1 : n1 ≤ 200) (hn2 : n2 ≤ 200)
    (hc1 : qx_cd w 1 q n1 op1 ar1 C S) (hc2 : qx_cd w 2 q n2 op2 ar2 C S) (hre : qx_re w nr q C S) (hN : qx_N S) (h69 : S.1 291 69 = 0) (hW : qx_W L0 D0 L1 D1 rc m C S) (h4 : C.1 280 4 = (S.2.1 291 70).toInt32) (hQ : qx_Q c q hw C S) (hG : qx_G c t h C S) (ht : t ≤ 16) :
    ∃ (b : Bool) (C' S' : qcM), fX4_visit_b35 w C.1 C.2.1 C.2.2.1 C.2.2.2 = some (b, C') ∧ fX12_goesOn w S.1 S.2.1 S.2.2.1 S.2.2.2 1 = some (b, S') ∧ qx_Y L0 D0 L1 D1 rc m C S b C' S' ∧ (b = true → ∃ h', qx_G c (t + 1) h' C' S') := by
  have hc4 : c ≤ 4 := hQ.2.2.1
  have hq : q < 12 := hQ.1
  obtain ⟨b, C1, S1, m', x2, s0, e1, e2, e3, e4, e5, e6⟩ := qx_val (L0 := L0) (D0 := D0) (L1 := L1) (D1 := D1) (rc := rc) (res := r1) hc4 h338 hk6 (by rcases hr1 with ⟨_, z1, z2⟩ | ⟨_, z1, _⟩; exact Or.inl ⟨z1, z2⟩; exact Or.inr z1) (by rcases hr1 with ⟨z0, z1, z2⟩ | ⟨z0, z1, z2⟩; exact Or.inl ⟨z0, z1⟩; exact Or.inr ⟨z0, z2⟩) (fun k l hk hl ho => absurd ho (hs1 k l hk hl)) hc1 hre hN h69 hW h4
  have hm : m' = m := by
    rcases e3 with z | ⟨_, k, l, z1, z2, z3⟩
    · exact z
    · exact absurd z3 (hs1 k l z1 z2)
  subst hm
  have h317 : S.1 317 (3 * q + 1) = nI n1 := by
    obtain ⟨_, b0, _, _, _, _, _, _, _, _, z⟩ := hc1
    exact z
  rw [e1, mx_goesOn 1 hq hQ.2.2.2.2.2.1 hn1 h317]
  cases b
  · have hn0 : n1 ≠ 0 := fun z => by have := (e4 z).2; cases this
    rw [if_neg (by decide), if_neg hn0, e5 hn0]
    exact ⟨false, C1, S1, rfl, rfl, qx_Y_F e2, fun z => by cases z⟩
  · obtain ⟨v1, v2⟩ := e6 rfl
    rw [if_pos rfl]
    obtain ⟨y3, y5, hM, p1, p2, p3, p4⟩ : ∃ (y3 : Int64) (y5 : UInt64), (if n1 = 0 then fX12_goesOn_b36 w S.1 S.2.1 S.2.2.1 S.2.2.2 1 0 else (qc_bd (fX12_works w S.1 S.2.1 S.2.2.1 S.2.2.2 (1 : Int32)) fun r15 I15 L15 D15 R15 => if r15 = true then (fX12_goesOn_b36 w I15 L15 D15 R15 1 1) else (some (false, I15, L15, D15, R15)))) = fX12_goesOn_b81 w S1.1 S1.2.1 S1.2.2.1 S1.2.2.2 1 y5 y3 ∧ (c ≤ 2 → x2 = y3) ∧ (3 ≤ c → s0 = y5) ∧ qf_N y5 ∧ (c = 3 → qf_isF y5) := by
      rcases hr1 with ⟨z0, z1, z2⟩ | ⟨z0, z1, z2⟩
      · obtain ⟨a1, a2⟩ := v1 z1
        obtain ⟨a3, _⟩ := e4 z0
        refine ⟨0, 0, ?_, fun _ => a1, fun z => by omega, (qf_n64 _).mp (by decide), fun z => by omega⟩
        rw [if_pos z0, a3]
        unfold fX12_goesOn_b36 fX12_goesOn_b66
        rw [if_neg (show ¬ (1 : Int32) = 2 by decide), if_pos rfl, if_pos rfl]
      · obtain ⟨a1, a2⟩ := v2 z1
        refine ⟨S1.2.1 328 0, S1.2.2.1 329 0, ?_, fun z => (a1 z).1, fun z => (a2 z).1, (qf_n64 _).mp (e2.2.2.1 0 (by decide)), fun z => ?_⟩
        · rw [if_neg (by omega), e5 (by omega)]
          rw [qx_bdS, if_pos rfl]
          unfold fX12_goesOn_b36 fX12_goesOn_b66
          rw [if_neg (show ¬ (1 : Int32) = 2 by decide), if_neg (show ¬ (1 : Int32) = 0 by decide), if_neg (show ¬ (1 : Int32) = 0 by decide), show Int32.toNatClampNeg (0 : Int32) = 0 from rfl]
        · have a3 := a2 (by omega)
          rw [← a3.1]
          exact a3.2.2 z
    rw [hM]
    have hc2' := qx_cd_F hc2 e2.1 e2.2.1
    have hre' := qx_re_F hre e2.1 e2.2.1
    obtain ⟨k69, _, _⟩ := e2.2.2.2.2.2.1 rfl
    obtain ⟨b2, C2, C3, S3, key, d1, d2, d3, d4, d5, d6⟩ := qx_key hr2 hs2 hc2' hre' e2.2.2.1 k69 e2.2.2.2.1 e2.2.2.2.2.1
    have h317b : S1.1 317 (3 * q + 2) = nI n2 := by
      obtain ⟨_, b0, _, _, _, _, _, _, _, _, z⟩ := hc2'
      exact z
    rw [mx_b81 y5 y3 hq (hre'.2.2.2.2.2.2.1) hn2 h317b]
    unfold fX4_visit_b93
    rw [d1]
    obtain ⟨I2, L2, D2, R2⟩ := C2
    rw [qc_bds]
    cases b2
    · have hn0 : n2 ≠ 0 := fun z => by have := (d5 z).2.1; cases this
      have hC := d2 rfl
      subst hC
      rw [if_neg (by decide), if_neg hn0, (d6 hn0).1]
      exact ⟨false, _, S3, rfl, rfl, qx_Y_F (qx_F_tr e2 d4), fun z => by cases z⟩
    · obtain ⟨t1, t2⟩ := d3 rfl
      dsimp only at t1 t2
      have hFF := qx_F_tr e2 d4
      have hR1 : R2 = C.2.2.2 := t1.trans e2.1.2.2.2
      subst hR1
      rw [if_pos rfl, hre.1, qc_gdt, h9, show qc_l62 9 = true from rfl, qc_gdt, if_pos rfl, t2]
      obtain ⟨k692, _, _⟩ := d4.2.2.2.2.2.1 rfl
      obtain ⟨I3, L3, D3, R3⟩ := C3
      rw [qc_bds]
      obtain ⟨b3, C4, S4, g1, g2, g3, g4⟩ := qx_vfold (w := w) (x3 := x2) (y3 := y3) (x5 := s0) (y5 := y5) d4.2.2.1 k692 d4.2.2.2.1 d4.2.2.2.2.1 (qx_Q_F (qx_Q_F hQ e2.1 e2.2.1) d4.1 d4.2.1) (qx_G_F (qx_G_F hG e2) d4) ht key p1 p2 p3 p4
      refine ⟨b3, C4, S4, g1, ?_, qx_FY hFF g3, g4⟩
      by_cases hn0 : n2 = 0
      · obtain ⟨z1, z2, z3⟩ := d5 hn0
        rw [if_pos hn0, ← z1, ← z3]
        exact g2
      · obtain ⟨z1, z2⟩ := d6 hn0
        rw [if_neg hn0, z1, qx_bdS, if_pos rfl, ← z2 rfl]
        exact g2
end
