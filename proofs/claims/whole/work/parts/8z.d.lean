/-! an object visited for a fold -/
def qx_vc (C C' : qcM) : Prop := (∀ a k, ¬ (a = 287 ∧ k = 2) → ¬ (a = 286 ∧ k = 5) → ¬ (a = 280 ∧ 1 ≤ k ∧ k ≤ 5) → a ≠ 281 → C'.1 a k = C.1 a k) ∧ (∀ a, a ≠ 288 → a ≠ 261 → a ≠ 283 → a ≠ 284 → C'.2.1 a = C.2.1 a) ∧ (∀ a, a ≠ 289 → a ≠ 262 → a ≠ 282 → a ≠ 285 → C'.2.2.1 a = C.2.2.1 a) ∧ C'.2.2.2 = C.2.2.2
def qx_vs (S S' : qcM) : Prop := (∀ a k, ¬ (a = 291 ∧ (k = 67 ∨ k = 68 ∨ k = 69 ∨ k = 73 ∨ k = 79 ∨ k = 80 ∨ k = 81)) → a ≠ 330 → a ≠ 333 → S'.1 a k = S.1 a k) ∧ (∀ a k, a ≠ 328 → a ≠ 331 → a ≠ 295 → a ≠ 335 → a ≠ 336 → ¬ (a = 291 ∧ k = 70) → S'.2.1 a k = S.2.1 a k) ∧ (∀ a, a ≠ 329 → a ≠ 332 → a ≠ 296 → a ≠ 334 → a ≠ 337 → S'.2.2.1 a = S.2.2.1 a) ∧ S'.2.2.2 = S.2.2.2
/-- what a visit leaves -/
def qx_Y (L0 : Nat → Int64) (D0 : Nat → UInt64) (L1 : Nat → Int64) (D1 : Nat → UInt64) (rc : Int32) (m' : Nat) (C S : qcM) (b : Bool) (C' S' : qcM) : Prop :=
  qx_vc C C' ∧ qx_vs S S' ∧ qx_N S' ∧ qx_W L0 D0 L1 D1 rc m' C' S' ∧ C'.1 280 4 = (S'.2.1 291 70).toInt32 ∧
  (b = true → S'.1 291 69 = 0 ∧ (C'.1 280 1 = C.1 280 1 ∧ C'.1 280 2 = C.1 280 2 ∧ C'.1 280 3 = C.1 280 3) ∧ (S'.1 291 79 = S.1 291 79 ∧ S'.1 291 80 = S.1 291 80)) ∧
  (b = false → C'.1 280 1 = S'.1 291 69 ∧ C'.1 280 2 = S'.1 291 79 ∧ C'.1 280 3 = S'.1 291 80 ∧ C'.1 280 5 = 0)
section
variable {w : qcW} {L0 : Nat → Int64} {D0 : Nat → UInt64} {L1 : Nat → Int64} {D1 : Nat → UInt64} {rc : Int32} {m m' : Nat} {C S C' S' C'' S'' : qcM} {b : Bool}
theorem qx_F_vc (h : qx_fc C C') : qx_vc C C' := ⟨fun a k x y z _ => h.1 a k x y z, fun a x y _ _ => h.2.1 a x y, fun a x y _ _ => h.2.2.1 a x y, h.2.2.2⟩
theorem qx_F_vs (h : qx_fs S S') : qx_vs S S' := ⟨fun a k x y _ => h.1 a k (by omega) y, fun a k x y z _ _ v => h.2.1 a k x y z v, fun a x y z _ _ => h.2.2.1 a x y z, h.2.2.2⟩
theorem qx_vc_tr {A B C : qcM} (h : qx_vc A B) (g : qx_vc B C) : qx_vc A C := ⟨fun a k x y z v => (g.1 a k x y z v).trans (h.1 a k x y z v), fun a x y z v => (g.2.1 a x y z v).trans (h.2.1 a x y z v), fun a x y z v => (g.2.2.1 a x y z v).trans (h.2.2.1 a x y z v), g.2.2.2.trans h.2.2.2⟩
theorem qx_vs_tr {A B C : qcM} (h : qx_vs A B) (g : qx_vs B C) : qx_vs A C := ⟨fun a k x y z => (g.1 a k x y z).trans (h.1 a k x y z), fun a k x y z v u t => (g.2.1 a k x y z v u t).trans (h.2.1 a k x y z v u t), fun a x y z v u => (g.2.2.1 a x y z v u).trans (h.2.2.1 a x y z v u), g.2.2.2.trans h.2.2.2⟩
theorem qx_Y_F (h : qx_F L0 D0 L1 D1 rc m' C S b C' S') : qx_Y L0 D0 L1 D1 rc m' C S b C' S' := by
  obtain ⟨h1, h2, h3, h4, h5, h6, h7⟩ := h
  exact ⟨qx_F_vc h1, qx_F_vs h2, h3, h4, h5, fun hb => ⟨(h6 hb).1, ⟨(h6 hb).2.1.1, (h6 hb).2.1.2.1, (h6 hb).2.1.2.2.1⟩, (h6 hb).2.2⟩, h7⟩
theorem qx_FY (h : qx_F L0 D0 L1 D1 rc m C S true C' S') (g : qx_Y L0 D0 L1 D1 rc m' C' S' b C'' S'') : qx_Y L0 D0 L1 D1 rc m' C S b C'' S'' := by
  obtain ⟨h1, h2, h3, h4, h5, h6, h7⟩ := h
  obtain ⟨g1, g2, g3, g4, g5, g6, g7⟩ := g
  obtain ⟨k1, ⟨k2, k3, k4, k5⟩, k6, k7⟩ := h6 rfl
  refine ⟨qx_vc_tr (qx_F_vc h1) g1, qx_vs_tr (qx_F_vs h2) g2, g3, g4, g5, fun hb => ?_, g7⟩
  obtain ⟨x1, ⟨x2, x3, x4⟩, x6, x7⟩ := g6 hb
  exact ⟨x1, ⟨x2.trans k2, x3.trans k3, x4.trans k4⟩, x6.trans k6, x7.trans k7⟩
theorem qx_G_F {c t h : Nat} (hG : qx_G c t h C S) (hF : qx_F L0 D0 L1 D1 rc m C S true C' S') : qx_G c t h C' S' := by
  obtain ⟨h1, h2, h3, h4, h5, h6, h7⟩ := hF
  obtain ⟨k1, ⟨k2, k3, k4, k5⟩, k6, k7⟩ := h6 rfl
  exact qx_G_co hG (fun k => h1.1 281 k (by omega) (by omega) (by omega)) (fun k => h2.1 333 k (by omega) (by omega)) (fun k => congrFun (h1.2.1 283 (by decide) (by decide)) k) (fun k => h2.2.1 335 k (by omega) (by omega) (by omega) (by omega)) (fun k => congrFun (h1.2.1 284 (by decide) (by decide)) k) (fun k => h2.2.1 336 k (by omega) (by omega) (by omega) (by omega)) (fun k => congrFun (h1.2.2.1 285 (by decide) (by decide)) k) (fun k => congrFun (h2.2.2.1 337 (by decide) (by decide) (by decide)) k) k5 (h2.1 291 81 (by omega) (by omega))
theorem qx_Q_F {c q : Nat} {hw : Int32} (hQ : qx_Q c q hw C S) (hc : qx_fc C C') (hs : qx_fs S S') : qx_Q c q hw C' S' := by
  obtain ⟨q1, q2, q3, q4, q5, q6, q7, q8, q9⟩ := hQ
  exact ⟨q1, q2, q3, by rw [hc.2.2.2]; exact q4, (hc.1 280 13 (by omega) (by omega) (by omega)).trans q5, (hs.1 291 72 (by omega) (by omega)).trans q6, (hs.1 321 q (by omega) (by omega)).trans q7, (hs.1 322 q (by omega) (by omega)).trans q8, q9⟩
/-- the fold itself, and its fault -/
theorem qx_vfold {c q t h : Nat} {hw : Int32} {x3 y3 : Int64} {x5 y5 : UInt64} (hN : qx_N S) (h69 : S.1 291 69 = 0) (hW : qx_W L0 D0 L1 D1 rc m C S) (h4 : C.1 280 4 = (S.2.1 291 70).toInt32) (hQ : qx_Q c q hw C S) (hG : qx_G c t h C S) (ht : t ≤ 16) (x1 : Int64) (e3 : c ≤ 2 → x3 = y3) (e5 : 3 ≤ c → x5 = y5) (hy : qf_N y5) (hF : c = 3 → qf_isF y5) :
    ∃ (b : Bool) (C' S' : qcM), (qc_bd (fX3_fold w C.1 C.2.1 C.2.2.1 C.2.2.2 x1 x3 x5) fun r8 I8 L8 D8 R8 => if r8 = 0 then (fX4_visit_b175 w I8 L8 D8 R8 r8) else (qc_bd (fX3_fail w I8 L8 D8 R8 r8 (3 : Int32) (0 : Int32)) fun r10 I10 L10 D10 R10 => fX4_visit_b175 w I10 L10 D10 R10 r8)) = some (b, C') ∧ fX12_folds w S.1 S.2.1 S.2.2.1 S.2.2.2 x1 y3 y5 = some (b, S') ∧ qx_Y L0 D0 L1 D1 rc m C S b C' S' ∧ (b = true → ∃ h', qx_G c (t + 1) h' C' S') := by
  obtain ⟨f, ⟨I2, L2, D2, R2⟩, S2, f1, f2, ⟨c1, c2, c3, c4⟩, ⟨s1, s2, s3, s4⟩, f5, f6⟩ := qx_fold (w := w) hQ hG ht x1 e3 e5 hy hF
  dsimp only at c1 c2 c3 c4
  rw [f1, qc_bds]
  have i1 : ∀ a, a ≠ 281 → a ≠ 280 → I2 a = C.1 a := fun a x y => funext fun k => c1 a k x (by omega)
  have j1 : ∀ a, a ≠ 333 → a ≠ 291 → S2.1 a = S.1 a := fun a x y => funext fun k => s1 a k x (by omega)
  have hW2 : ∀ I3 : qTI, I3 258 = I2 258 → I3 259 = I2 259 → I3 260 = I2 260 → qx_W L0 D0 L1 D1 rc m (I3, L2, D2, R2) S2 := fun I3 w1 w2 w3 => qx_W_co hW (w1.trans (i1 258 (by decide) (by decide))) (w2.trans (i1 259 (by decide) (by decide))) (w3.trans (i1 260 (by decide) (by decide))) (c2 261 (by decide) (by decide)) (c3 262 (by decide)) (j1 292 (by decide) (by decide)) (j1 293 (by decide) (by decide)) (j1 294 (by decide) (by decide)) (s2 295 (by decide) (by decide)) (s3 296 (by decide)) (j1 330 (by decide) (by decide)) (s2 331 (by decide) (by decide)) (s3 332 (by decide)) (s1 291 73 (by decide) (by omega))
  have hN2 : qx_N S2 := fun k hk => by rw [s3 329 (by decide)]; exact hN k hk
  have hvs : qx_vs S S2 := ⟨fun a k x y z => s1 a k z (by omega), fun a k _ _ _ x y _ => congrFun (s2 a x y) k, fun a _ _ _ _ x => s3 a x, s4⟩
  have h42 : I2 280 4 = (S2.2.1 291 70).toInt32 := by rw [c1 280 4 (by decide) (by omega), s2 291 (by decide) (by decide), h4]
  unfold fX4_visit_b175 fX3_fail
  by_cases hf : f = 0
  · obtain ⟨h', g1, g2, g3, g4⟩ := f5 hf
    rw [if_pos hf, if_pos hf]
    refine ⟨true, (I2, L2, D2, R2), S2, rfl, by rw [f2, decide_eq_true hf], ⟨⟨fun a k _ _ x y => c1 a k y (by omega), fun a _ _ x y => c2 a x y, fun a _ _ _ x => c3 a x, c4⟩, hvs, hN2, hW2 I2 rfl rfl rfl, h42, fun _ => ⟨g2.trans h69, ⟨c1 280 1 (by decide) (by omega), c1 280 2 (by decide) (by omega), c1 280 3 (by decide) (by omega)⟩, g3, g4⟩, fun z => by cases z⟩, fun _ => ⟨h', g1⟩⟩
  · obtain ⟨g2, g3, g4⟩ := f6 hf
    rw [if_neg hf, qc_bds, if_neg hf]
    have v1 : ∀ a k, ¬ (a = 280 ∧ 1 ≤ k ∧ k ≤ 5 ∧ k ≠ 4) → qc_u (qc_u (qc_u (qc_u I2 280 1 f) 280 2 3) 280 3 0) 280 5 0 a k = I2 a k := fun a k h => by rw [qc_u_ne _ _ (by omega), qc_u_ne _ _ (by omega), qc_u_ne _ _ (by omega), qc_u_ne _ _ (by omega)]
    refine ⟨false, (qc_u (qc_u (qc_u (qc_u I2 280 1 f) 280 2 3) 280 3 0) 280 5 0, L2, D2, R2), S2, rfl, by rw [f2, decide_eq_false hf], ⟨⟨fun a k _ _ x y => (v1 a k (by omega)).trans (c1 a k y (by omega)), fun a _ _ x y => c2 a x y, fun a _ _ _ x => c3 a x, c4⟩, hvs, hN2, hW2 _ (funext fun k => v1 258 k (by omega)) (funext fun k => v1 259 k (by omega)) (funext fun k => v1 260 k (by omega)), (v1 280 4 (by omega)).trans h42, (fun z => by cases z), fun _ => ⟨?_, ?_, ?_, ?_⟩⟩, fun z => by cases z⟩
    · show qc_u (qc_u (qc_u (qc_u I2 280 1 f) 280 2 3) 280 3 0) 280 5 0 280 1 = _
      rw [qc_u_ne _ _ (Or.inr (by decide)), qc_u_ne _ _ (Or.inr (by decide)), qc_u_ne _ _ (Or.inr (by decide)), qc_u_at, g2]
    · show qc_u (qc_u (qc_u (qc_u I2 280 1 f) 280 2 3) 280 3 0) 280 5 0 280 2 = _
      rw [qc_u_ne _ _ (Or.inr (by decide)), qc_u_ne _ _ (Or.inr (by decide)), qc_u_at, g3]
    · show qc_u (qc_u (qc_u (qc_u I2 280 1 f) 280 2 3) 280 3 0) 280 5 0 280 3 = _
      rw [qc_u_ne _ _ (Or.inr (by decide)), qc_u_at, g4]
    · show qc_u (qc_u (qc_u (qc_u I2 280 1 f) 280 2 3) 280 3 0) 280 5 0 280 5 = _
      rw [qc_u_at]
end
