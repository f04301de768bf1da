/-! visits for hits -/
section
variable {w : qcW} {L0 : Nat → Int64} {D0 : Nat → UInt64} {L1 : Nat → Int64} {D1 : Nat → UInt64} {rc : Int32} {I : qTI} {D : qTD} {R : qTR} {q hr ob : Nat} {kd : Int32}
theorem qx_visH {md : Nat} {x : Int32} (hB : qq_B w I D R q) (hq : q < 12) (hob : ob ≤ 16) (hmd : md = 0 ∨ md = 2) (h318 : I 318 q = nI md) (h8 : I (R 290 q) 8 = x) (hrc : ∀ c, c < 10 → I (R 290 q) 7 = nI c → I 258 c = rc) :
    ∀ t C S m, t < ob → qx_K I D R q hr kd C S → qx_N S → S.1 291 69 = 0 → qx_W L0 D0 L1 D1 rc m C S → m ≤ t → C.1 280 4 = (S.2.1 291 70).toInt32 → C.1 286 4 = nI t → S.1 291 71 = nI t → S.1 291 0 = nI ob → (∃ h, qx_Hh x t h C S) → ∃ (b : Bool) (C' S' : qcM) (m' : Nat), fX4_visit w C.1 C.2.1 C.2.2.1 C.2.2.2 = some (b, C') ∧ (∀ k139, fX12_run_b139 w k139 S.1 S.2.1 S.2.2.1 S.2.2.2 (nI q) (nI md) = fX12_run_b230 w k139 S'.1 S'.2.1 S'.2.2.1 S'.2.2.2 (nI q) (nI md) (if b = true then 1 else 0)) ∧ qx_Y L0 D0 L1 D1 rc m' C S b C' S' ∧ m' ≤ m + 1 ∧ (b = true → ∃ h, qx_Hh x (t + 1) h C' S') := by
  intro t C S m ht hK hN h69 hW hm h4 h286 h71 h0 hH
  obtain ⟨h, hH⟩ := hH
  obtain ⟨n0, n1, n2, nr, b2, ⟨a1, a2, a3, a4⟩, a5, a6, a7, a8, a9, ⟨c1, c2, c3, c4⟩, d⟩ := qx_cds hB
  obtain ⟨k1, k2, k3, k4, k5, k6, k7, k8⟩ := id hK
  obtain ⟨e0, e1, e2⟩ := a8 C S k1 k2 (fun a x y => k3 a x (by omega))
  have hre := a9 C S hq k1 k2 k4 k5 (h286.trans h71.symm)
  obtain ⟨kk, r1, g4, g0, g6, g9, gx, gs⟩ : ∃ (kk : Nat) (r1 : List Nat), (R (R 290 q) 4 = 5 ∨ R (R 290 q) 4 = 15) ∧ n2 = 0 ∧ I (R 290 q) 6 = nI kk ∧ (md = 0 ∧ n1 = 0 ∧ r1 = [] ∧ kk = 2 ∨ md = 0 ∧ 0 < n1 ∧ r1 = [4] ∧ kk = 4 ∧ qw_wf nr n1 (fun i => I 315 (600 * q + 200 + i)) (fun i => I 316 (600 * q + 200 + i)) r1 ∨ md = 2 ∧ 0 < n1 ∧ r1 = [] ∧ kk = 2 ∧ qw_wf nr n1 (fun i => I 315 (600 * q + 200 + i)) (fun i => I 316 (600 * q + 200 + i)) r1) ∧ (x = 1 ∨ x = -1 ∨ x = 0) ∧ (∀ k l, k < n1 → l < 8 → I 315 (600 * q + 200 + k) = nI (20 + l) → k + 1 = n1 ∧ ∃ c, c < 10 ∧ I 316 (600 * q + 200 + k) = nI c ∧ I 258 c = rc) := by
    rcases d with ⟨z0, z1, z2, z3, z4, z5⟩ | ⟨z, _⟩ | ⟨z0, z1, z2, z3, z4, z5, z6, z7, z8, z9, l, z10, z11, z12⟩
    · have hm0 : md = 0 := by
        rcases hmd with y | y
        · exact y
        · subst y; exact absurd (z0.symm.trans h318) (by decide)
      rcases z4 with ⟨y1, y2, y3, y4⟩ | ⟨y1, y2, y3, y4⟩
      · exact ⟨2, [], Or.inl z1, z2, y2, Or.inl ⟨hm0, y1, rfl, rfl⟩, Or.inr (Or.inr (h8.symm.trans y4)), fun k l hk hl ho => absurd ho (z3 k hk l hl)⟩
      · refine ⟨4, [4], Or.inl z1, z2, y3, Or.inr (Or.inl ⟨hm0, y2, rfl, rfl, y1⟩), ?_, fun k l hk hl ho => absurd ho (z3 k hk l hl)⟩
        rcases y4 with ⟨_, y⟩ | ⟨_, y⟩
        · exact Or.inl (h8.symm.trans y)
        · exact Or.inr (Or.inl (h8.symm.trans y))
    · rcases hmd with y | y <;> (subst y; exact absurd (z.symm.trans h318) (by decide))
    · have hm2 : md = 2 := by
        rcases hmd with y | y
        · subst y; exact absurd (z0.symm.trans h318) (by decide)
        · exact y
      refine ⟨2, [], Or.inr z1, z2, z4, Or.inr (Or.inr ⟨hm2, z6, rfl, rfl, z7⟩), Or.inr (Or.inr (h8.symm.trans z5)), fun k l hk hl ho => ?_⟩
      have hk1 : k + 1 = n1 := by
        by_cases y : k < n1 - 1
        · exact absurd ho (z8 k y l hl)
        · omega
      obtain ⟨c, y1, y2, _⟩ := qi_k z9 (by decide)
      refine ⟨hk1, c, y1, ?_, hrc c y1 y2⟩
      rw [show k = n1 - 1 by omega, z12, y2]
  subst g0
  refine qx_visit (P := fun C' S' => ∃ h, qx_Hh x (t + 1) h C' S') (by
    rcases c1 with z | z
    · exact Or.inl z
    · by_cases y : n0 = 0
      · exact Or.inl y
      · exact Or.inr ⟨by omega, z⟩) (fun i l hi hl => c2 i hi l hl) e0 hre hN h69 hW h4 a1 (qx_end_n hob ht h71 h0) (fun C1 S1 hF => ?_) (fun C1 S1 hF => ⟨h, qx_Hh_up (qx_Hh_F hH hF)⟩)
  have hK1 := qx_K_F hK hF.1 hF.2.1
  obtain ⟨l1, l2, l3, l4, l5, l6, l7, l8⟩ := id hK1
  have hX4 : C1.2.2.2 (C1.2.2.2 286 3) 4 = 5 ∨ C1.2.2.2 (C1.2.2.2 286 3) 4 = 15 := by rw [l1, (l2 _ a5).1]; exact g4
  have hX6 : C1.1 (C1.2.2.2 286 3) 6 = nI kk := by rw [l1, (l2 _ a5).2.1]; exact g6
  have hX8 : C1.1 (C1.2.2.2 286 3) 8 = x := by rw [l1, (l2 _ a5).2.1]; exact h8
  obtain ⟨b, C', S', m', y1, y2, y3, y4, y5⟩ := qx_goH (md := md) (by rw [l1]; exact a5) hX6 hX8 gx hX4 g9 (fun k l hk hl ho => by
      obtain ⟨z1, c, z2, z3, z4⟩ := gs k l hk hl ho
      exact ⟨z1, by omega, c, z2, z3, by rw [l6]; exact z4⟩) a2 (qx_cd_F e1 hF.1 hF.2.1) (qx_cd_F e2 hF.1 hF.2.1) (qx_re_F hre hF.1 hF.2.1) ((hF.1.1 286 4 (by omega) (by omega) (by omega)).trans h286) hF.2.2.1 (hF.2.2.2.2.2.1 rfl).1 hF.2.2.2.1 hF.2.2.2.2.1 (qx_Hh_F hH hF) (by omega)
  exact ⟨b, C', S', m', y1, y2, y3, by rcases y4 with z | ⟨z, _⟩ <;> omega, y5⟩
end
