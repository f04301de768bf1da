/-! what stands through a run -/
def qx_K (I : qTI) (D : qTD) (R : qTR) (q hr : Nat) (kd : Int32) (C S : qcM) : Prop := C.2.2.2 286 3 = R 290 q ∧ (∀ a, 338 ≤ a → C.2.2.2 a = R a ∧ C.1 a = I a ∧ C.2.2.1 a = D a) ∧ (∀ a, 315 ≤ a → a ≤ 322 → S.1 a = I a) ∧ S.1 291 72 = nI q ∧ S.2.2.1 305 = D 305 ∧ C.1 258 = I 258 ∧ C.2.2.2 280 12 = hr ∧ C.1 280 13 = kd
theorem qx_K_z {I : qTI} {D : qTD} {R : qTR} {q hr : Nat} {kd : Int32} {C S C' S' : qcM} (h : qx_K I D R q hr kd C S) (hc : qx_zc C C') (hs : qx_zs S S') : qx_K I D R q hr kd C' S' := by
  obtain ⟨h1, h2, h3, h4, h5, h6, h7, h8⟩ := h
  refine ⟨by rw [hc.2.2.2]; exact h1, fun a ha => ⟨by rw [hc.2.2.2]; exact (h2 a ha).1, (funext fun k => hc.1 a k (by omega) (by omega) (by omega) (by omega)).trans (h2 a ha).2.1, (hc.2.2.1 a (by omega) (by omega) (by omega) (by omega)).trans (h2 a ha).2.2⟩, fun a x y => (funext fun k => hs.1 a k (by omega) (by omega) (by omega)).trans (h3 a x y), (hs.1 291 72 (by omega) (by omega) (by omega)).trans h4, (hs.2.2.1 305 (by decide) (by decide) (by decide) (by decide) (by decide)).trans h5, (funext fun k => hc.1 258 k (by omega) (by omega) (by omega) (by omega)).trans h6, by rw [hc.2.2.2]; exact h7, (hc.1 280 13 (by omega) (by omega) (by omega) (by omega)).trans h8⟩
theorem qx_K_F {I : qTI} {D : qTD} {R : qTR} {q hr : Nat} {kd : Int32} {C S C' S' : qcM} (h : qx_K I D R q hr kd C S) (hc : qx_fc C C') (hs : qx_fs S S') : qx_K I D R q hr kd C' S' := qx_K_z h (qx_v_zc (qx_F_vc hc)) (qx_v_zs (qx_F_vs hs))
theorem qx_G_up {c t h : Nat} {C S : qcM} (hG : qx_G c t h C S) : qx_G c (t + 1) h C S := ⟨hG.1, hG.2.1, hG.2.2.1, fun k hk => qx_g1_mono (hG.2.2.2 k hk) (Nat.le_succ t)⟩
theorem qx_Hh_up {x : Int32} {t h : Nat} {C S : qcM} (hH : qx_Hh x t h C S) : qx_Hh x (t + 1) h C S := ⟨hH.1, hH.2.1, by have := hH.2.2.1; omega, hH.2.2.2⟩
section
variable {w : qcW} {L0 : Nat → Int64} {D0 : Nat → UInt64} {L1 : Nat → Int64} {D1 : Nat → UInt64} {rc : Int32} {I : qTI} {D : qTD} {R : qTR} {q hr ob : Nat} {kd : Int32}
theorem qx_end_n {S : qcM} {t : Nat} (hob : ob ≤ 16) (ht : t < ob) (h71 : S.1 291 71 = nI t) (h0 : S.1 291 0 = nI ob) : ¬ S.1 291 0 ≤ S.1 291 71 := by
  rw [h71, h0]
  exact fun z => by have := (qi_le (by omega) (by omega)).mp z; omega
theorem qx_visF {c : Nat} {hw : Int32} (hB : qq_B w I D R q) (hq : q < 12) (hob : ob ≤ 16) (h318 : I 318 q = 1) (hkd : kd = nI c) (hc4 : c ≤ 4) (h322 : I 322 q = nI c) (h321 : I 321 q = hw) (hhow : qq_how hr hw) :
    ∀ t C S m, t < ob → qx_K I D R q hr kd C S → qx_N S → S.1 291 69 = 0 → qx_W L0 D0 L1 D1 rc m C S → m ≤ t → C.1 280 4 = (S.2.1 291 70).toInt32 → C.1 286 4 = nI t → S.1 291 71 = nI t → S.1 291 0 = nI ob → (∃ h, qx_G c t h C S) → ∃ (b : Bool) (C' S' : qcM) (m' : Nat), fX4_visit w C.1 C.2.1 C.2.2.1 C.2.2.2 = some (b, C') ∧ (∀ k139, fX12_run_b139 w k139 S.1 S.2.1 S.2.2.1 S.2.2.2 (nI q) 1 = fX12_run_b230 w k139 S'.1 S'.2.1 S'.2.2.1 S'.2.2.2 (nI q) 1 (if b = true then 1 else 0)) ∧ qx_Y L0 D0 L1 D1 rc m' C S b C' S' ∧ m' ≤ m + 1 ∧ (b = true → ∃ h, qx_G c (t + 1) h C' S') := by
  intro t C S m ht hK hN h69 hW hm h4 h286 h71 h0 hG
  obtain ⟨h, hG⟩ := hG
  obtain ⟨n0, n1, n2, nr, b2, ⟨a1, a2, a3, a4⟩, a5, a6, a7, a8, a9, ⟨c1, c2, c3, c4⟩, d⟩ := qx_cds hB
  obtain ⟨k1, k2, k3, k4, k5, k6, k7, k8⟩ := id hK
  obtain ⟨e0, e1, e2⟩ := a8 C S k1 k2 (fun a x y => k3 a x (by omega))
  have hre := a9 C S hq k1 k2 k4 k5 (h286.trans h71.symm)
  rcases d with ⟨z, _⟩ | ⟨_, f1, f2, f3, f4, f5, k, g1, g2, g3, g4, g5, g6, g7⟩ | ⟨z, _⟩
  · exact absurd (z.symm.trans h318) (by decide)
  · have hkc : k = c := qi_nI_inj (by omega) (by omega) (g1.symm.trans h322)
    subst hkc
    have hQ : qx_Q k q hw C S := by
      refine ⟨hq, g2, g3, by rw [k7]; exact hhow, k8.trans hkd, k4, by rw [k3 321 (by decide) (by decide)]; exact h321, by rw [k3 322 (by decide) (by decide)]; exact h322, ?_⟩
      rw [h321] at g4 g5 g6
      rcases hhow with ⟨_, z⟩ | ⟨_, z⟩ | ⟨_, z⟩ | ⟨_, z⟩ | ⟨_, z⟩
      · exact Or.inl ⟨z, g4 z⟩
      · rcases g5 z with y | y
        · exact Or.inr (Or.inl ⟨z, y⟩)
        · exact Or.inr (Or.inr (Or.inl ⟨z, y⟩))
      · exact Or.inr (Or.inr (Or.inr (Or.inr (Or.inl z))))
      · exact Or.inr (Or.inr (Or.inr (Or.inr (Or.inr z))))
      · exact Or.inr (Or.inr (Or.inr (Or.inl ⟨z, g6 z⟩)))
    refine qx_visit (P := fun C' S' => ∃ h, qx_G k (t + 1) h C' S') (by
      rcases c1 with z | z
      · exact Or.inl z
      · by_cases y : n0 = 0
        · exact Or.inl y
        · exact Or.inr ⟨by omega, z⟩) (fun i l hi hl => c2 i hi l hl) e0 hre hN h69 hW h4 a1 (qx_end_n hob ht h71 h0) (fun C1 S1 hF => ?_) (fun C1 S1 hF => ⟨h, qx_G_up (qx_G_F hG hF)⟩)
    have hK1 := qx_K_F hK hF.1 hF.2.1
    obtain ⟨l1, l2, l3, l4, l5, l6, l7, l8⟩ := id hK1
    have hX4 : C1.2.2.2 (C1.2.2.2 286 3) 4 = 9 := by rw [l1, (l2 _ a5).1]; exact f1
    have hX6 : C1.1 (C1.2.2.2 286 3) 6 = nI k := by rw [l1, (l2 _ a5).2.1]; exact f4.trans h322
    obtain ⟨r2, hr2⟩ : ∃ r2 : List Nat, n2 = 0 ∧ r2 = [] ∨ 0 < n2 ∧ qw_wf nr n2 (fun i => I 315 (600 * q + 400 + i)) (fun i => I 316 (600 * q + 400 + i)) r2 ∧ (r2 = [1] ∨ r2 = [2]) := by
      by_cases z : n2 = 0
      · exact ⟨[], Or.inl ⟨z, rfl⟩⟩
      · rcases c3 with x | x | x
        · exact absurd x z
        · exact ⟨[1], Or.inr ⟨by omega, x, Or.inl rfl⟩⟩
        · exact ⟨[2], Or.inr ⟨by omega, x, Or.inr rfl⟩⟩
    obtain ⟨b, C', S', y1, y2, y3, y4⟩ := qx_goF (r1 := if n1 = 0 then [] else [k]) (r2 := r2) (by rw [l1]; exact a5) hX6 hX4 (by
        rcases g7 with ⟨z1, z2⟩ | ⟨z1, z2, z3⟩
        · exact Or.inl ⟨z2, if_pos z2, g4 z1⟩
        · exact Or.inr ⟨z2, if_neg (by omega), by rw [if_neg (by omega)]; exact z3⟩) (fun i l hi hl => f3 i hi l hl) hr2 (fun i l hi hl => c4 i hi l hl) a2 a3 (qx_cd_F e1 hF.1 hF.2.1) (qx_cd_F e2 hF.1 hF.2.1) (qx_re_F hre hF.1 hF.2.1) hF.2.2.1 (hF.2.2.2.2.2.1 rfl).1 hF.2.2.2.1 hF.2.2.2.2.1 (qx_Q_F hQ hF.1 hF.2.1) (qx_G_F hG hF) (by omega)
    exact ⟨b, C', S', m, y1, y2, y3, by omega, y4⟩
  · exact absurd (z.symm.trans h318) (by decide)
end
