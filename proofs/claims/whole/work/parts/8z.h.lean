/-! one object after another -/
def qx_zc (C C' : qcM) : Prop := (∀ a k, ¬ (a = 287 ∧ k = 2) → ¬ (a = 286 ∧ (k = 4 ∨ k = 5)) → ¬ (a = 280 ∧ 1 ≤ k ∧ k ≤ 5) → a ≠ 281 → C'.1 a k = C.1 a k) ∧ (∀ a, a ≠ 288 → a ≠ 261 → a ≠ 283 → a ≠ 284 → C'.2.1 a = C.2.1 a) ∧ (∀ a, a ≠ 289 → a ≠ 262 → a ≠ 282 → a ≠ 285 → C'.2.2.1 a = C.2.2.1 a) ∧ C'.2.2.2 = C.2.2.2
def qx_zs (S S' : qcM) : Prop := (∀ a k, ¬ (a = 291 ∧ (k = 67 ∨ k = 68 ∨ k = 69 ∨ k = 71 ∨ k = 73 ∨ k = 79 ∨ k = 80 ∨ k = 81)) → a ≠ 330 → a ≠ 333 → S'.1 a k = S.1 a k) ∧ (∀ a k, a ≠ 328 → a ≠ 331 → a ≠ 295 → a ≠ 335 → a ≠ 336 → ¬ (a = 291 ∧ k = 70) → S'.2.1 a k = S.2.1 a k) ∧ (∀ a, a ≠ 329 → a ≠ 332 → a ≠ 296 → a ≠ 334 → a ≠ 337 → S'.2.2.1 a = S.2.2.1 a) ∧ S'.2.2.2 = S.2.2.2
theorem qx_v_zc {C C' : qcM} (h : qx_vc C C') : qx_zc C C' := ⟨fun a k x y z v => h.1 a k x (by omega) z v, h.2⟩
theorem qx_v_zs {S S' : qcM} (h : qx_vs S S') : qx_zs S S' := ⟨fun a k x y z => h.1 a k (by omega) y z, h.2⟩
theorem qx_zc_tr {A B C : qcM} (h : qx_zc A B) (g : qx_zc B C) : qx_zc A C := ⟨fun a k x y z v => (g.1 a k x y z v).trans (h.1 a k x y z v), fun a x y z v => (g.2.1 a x y z v).trans (h.2.1 a x y z v), fun a x y z v => (g.2.2.1 a x y z v).trans (h.2.2.1 a x y z v), g.2.2.2.trans h.2.2.2⟩
theorem qx_zs_tr {A B C : qcM} (h : qx_zs A B) (g : qx_zs B C) : qx_zs A C := ⟨fun a k x y z => (g.1 a k x y z).trans (h.1 a k x y z), fun a k x y z v u t => (g.2.1 a k x y z v u t).trans (h.2.1 a k x y z v u t), fun a x y z v u => (g.2.2.1 a x y z v u).trans (h.2.2.1 a x y z v u), g.2.2.2.trans h.2.2.2⟩
theorem qx_zc_4 (C : qcM) (v : Int32) : qx_zc C (qc_u C.1 286 4 v, C.2.1, C.2.2.1, C.2.2.2) := ⟨fun a k x y z v => qc_u_ne _ _ (by omega), fun _ _ _ _ _ => rfl, fun _ _ _ _ _ => rfl, rfl⟩
theorem qx_zs_71 (S : qcM) (v : Int32) : qx_zs S (qc_u S.1 291 71 v, S.2.1, S.2.2.1, S.2.2.2) := ⟨fun a k x y z => qc_u_ne _ _ (by omega), fun _ _ _ _ _ _ _ _ => rfl, fun _ _ _ _ _ _ => rfl, rfl⟩
section
variable {w : qcW} {L0 : Nat → Int64} {D0 : Nat → UInt64} {L1 : Nat → Int64} {D1 : Nat → UInt64} {rc : Int32} {q ob : Nat} {x2 : Int32} {P : Nat → qcM → qcM → Prop} {K : qcM → qcM → Prop}
/-- how the objects end -/
def qx_O (w : qcW) (L0 : Nat → Int64) (D0 : Nat → UInt64) (L1 : Nat → Int64) (D1 : Nat → UInt64) (rc : Int32) (q ob : Nat) (x2 : Int32) (P : Nat → qcM → qcM → Prop) (C S : qcM) (eC eS : qcO Int32) : Prop :=
  ∃ (C1 S1 : qcM) (m t : Nat) (k139 : qTI × qTL × qTD × qTR × Int32 × Int32 → qcO Int32), qx_zc C C1 ∧ qx_zs S S1 ∧ qx_N S1 ∧ qx_W L0 D0 L1 D1 rc m C1 S1 ∧ C1.1 280 4 = (S1.2.1 291 70).toInt32 ∧ S1.1 291 71 = nI t ∧ t ≤ ob ∧
    ((t = ob ∧ S1.1 291 69 = 0 ∧ (C1.1 280 1 = C.1 280 1 ∧ C1.1 280 2 = C.1 280 2 ∧ C1.1 280 3 = C.1 280 3) ∧ (S1.1 291 79 = S.1 291 79 ∧ S1.1 291 80 = S.1 291 80) ∧ P ob C1 S1 ∧ eC = (qc_gd (qc_io w (C1.2.2.2 286 3) 6) <| qc_bd (fX3_keepFirst w C1.1 C1.2.1 C1.2.2.1 C1.2.2.2 (C1.1 (C1.2.2.2 286 3) 9)) fun r3 I3 L3 D3 R3 => some ((I3 280 5), I3, L3, D3, R3)) ∧ eS = fX12_run_b139 w k139 S1.1 S1.2.1 S1.2.2.1 S1.2.2.2 (nI q) x2) ∨
     (C1.1 286 4 = nI t ∧ (C1.1 280 1 = S1.1 291 69 ∧ C1.1 280 2 = S1.1 291 79 ∧ C1.1 280 3 = S1.1 291 80 ∧ C1.1 280 5 = 0) ∧ eC = (qc_bd (fX1_giveBack w C1.1 C1.2.1 C1.2.2.1 C1.2.2.2) fun r6 I6 L6 D6 R6 => some (((-10 : Int32) - (I6 286 4)), I6, L6, D6, R6)) ∧ eS = fX12_run_b230 w k139 S1.1 S1.2.1 S1.2.2.1 S1.2.2.2 (nI q) x2 0))
theorem qx_objs (hob : ob ≤ 16) (hK : ∀ C S C' S', K C S → qx_zc C C' → qx_zs S S' → K C' S') (hP : ∀ t C S v u, P t C S → P t (qc_u C.1 286 4 v, C.2.1, C.2.2.1, C.2.2.2) S ∧ P t C (qc_u S.1 291 71 u, S.2.1, S.2.2.1, S.2.2.2))
    (hvis : ∀ t C S m, t < ob → K C S → qx_N S → S.1 291 69 = 0 → qx_W L0 D0 L1 D1 rc m C S → m ≤ t → C.1 280 4 = (S.2.1 291 70).toInt32 → C.1 286 4 = nI t → S.1 291 71 = nI t → S.1 291 0 = nI ob → P t C S → ∃ (b : Bool) (C' S' : qcM) (m' : Nat), fX4_visit w C.1 C.2.1 C.2.2.1 C.2.2.2 = some (b, C') ∧ (∀ k139, fX12_run_b139 w k139 S.1 S.2.1 S.2.2.1 S.2.2.2 (nI q) x2 = fX12_run_b230 w k139 S'.1 S'.2.1 S'.2.2.1 S'.2.2.2 (nI q) x2 (if b = true then 1 else 0)) ∧ qx_Y L0 D0 L1 D1 rc m' C S b C' S' ∧ m' ≤ m + 1 ∧ (b = true → P (t + 1) C' S')) :
    ∀ (N t m : Nat) (C S : qcM), ob < N + t → t ≤ ob → K C S → qx_N S → S.1 291 69 = 0 → qx_W L0 D0 L1 D1 rc m C S → m ≤ t → C.1 280 4 = (S.2.1 291 70).toInt32 → S.1 291 71 = nI t → S.1 291 0 = nI ob → P t C S →
      qx_O w L0 D0 L1 D1 rc q ob x2 P C S (fX4_go_l34 w N (C.1, C.2.1, C.2.2.1, C.2.2.2, nI ob, nI t)) (fX12_run_l139 w N (S.1, S.2.1, S.2.2.1, S.2.2.2, nI q, x2))
  | 0, t, m, C, S, h1, h2, _, _, _, _, _, _, _, _, _ => by omega
  | N + 1, t, m, C, S, h1, h2, k, hN, h69, hW, hm, h4, h71, h0, hp => by
    rw [fX4_go_l34_s, fX12_run_l139_s]
    by_cases ht : t = ob
    · subst ht
      refine ⟨C, S, m, t, fX12_run_l139 w N, ⟨fun _ _ _ _ _ _ => rfl, fun _ _ _ _ _ => rfl, fun _ _ _ _ _ => rfl, rfl⟩, ⟨fun _ _ _ _ _ => rfl, fun _ _ _ _ _ _ _ _ => rfl, fun _ _ _ _ _ _ => rfl, rfl⟩, hN, hW, h4, h71, Nat.le_refl _, Or.inl ⟨rfl, h69, ⟨rfl, rfl, rfl⟩, ⟨rfl, rfl⟩, hp, ?_, rfl⟩⟩
      unfold fX4_go_b34
      rw [if_pos (Int32.le_refl _)]
    · have hlt : ¬ nI ob ≤ nI t := fun z => by have := (qi_le (by omega) (by omega)).mp z; omega
      have a1 : ∀ a, a ≠ 286 → qc_u C.1 286 4 (nI t) a = C.1 a := fun a h => qc_u_off _ _ h
      obtain ⟨b, C1, S1, m', e1, e2, e3, e4, e5⟩ := hvis t (qc_u C.1 286 4 (nI t), C.2.1, C.2.2.1, C.2.2.2) S m (by omega) (hK _ _ _ _ k (qx_zc_4 C _) ⟨fun _ _ _ _ _ => rfl, fun _ _ _ _ _ _ _ _ => rfl, fun _ _ _ _ _ _ => rfl, rfl⟩) hN h69 (qx_W_co hW (a1 258 (by decide)) (a1 259 (by decide)) (a1 260 (by decide)) rfl rfl rfl rfl rfl rfl rfl rfl rfl rfl rfl) hm ((congrFun (a1 280 (by decide)) 4).trans h4) (qc_u_at C.1 286 4 _) h71 h0 (hP t C S _ 0 hp).1
      dsimp only at e1
      rw [e2]
      unfold fX4_go_b34
      rw [if_neg hlt, e1, qx_bdS]
      obtain ⟨y1, y2, y3, y4, y5, y6, y7⟩ := e3
      have hzc : qx_zc C C1 := qx_zc_tr (qx_zc_4 C (nI t)) (qx_v_zc y1)
      have g71 : S1.1 291 71 = nI t := (y2.1 291 71 (by omega) (by omega) (by omega)).trans h71
      cases b
      · rw [if_neg (by decide), if_neg (by decide)]
        obtain ⟨x1, x2, x3, x4⟩ := y7 rfl
        refine ⟨C1, S1, m', t, fX12_run_l139 w N, hzc, qx_v_zs y2, y3, y4, y5, g71, h2, Or.inr ⟨?_, ⟨x1, x2, x3, x4⟩, rfl, rfl⟩⟩
        exact (y1.1 286 4 (by omega) (by omega) (by omega) (by omega)).trans (qc_u_at C.1 286 4 _)
      · rw [if_pos rfl, if_pos rfl]
        obtain ⟨x1, ⟨x2', x3, x4⟩, x5, x6⟩ := y6 rfl
        unfold fX12_run_b230
        rw [if_neg (show ¬ (1 : Int32) = 0 by decide), g71, qi_s1]
        have b1 : ∀ k, k ≠ 71 → qc_u S1.1 291 71 (nI (t + 1)) 291 k = S1.1 291 k := fun k hk => qc_u_ne _ _ (Or.inr hk)
        have b2 : ∀ a, a ≠ 291 → qc_u S1.1 291 71 (nI (t + 1)) a = S1.1 a := fun a h => qc_u_off _ _ h
        have hzs : qx_zs S (qc_u S1.1 291 71 (nI (t + 1)), S1.2.1, S1.2.2.1, S1.2.2.2) := qx_zs_tr (qx_v_zs y2) (qx_zs_71 S1 _)
        have ih := qx_objs hob hK hP hvis N (t + 1) m' C1 (qc_u S1.1 291 71 (nI (t + 1)), S1.2.1, S1.2.2.1, S1.2.2.2) (by omega) (by omega) (hK _ _ _ _ k hzc hzs) y3 ((b1 69 (by decide)).trans x1) (qx_W_co y4 rfl rfl rfl rfl rfl (b2 292 (by decide)) (b2 293 (by decide)) (b2 294 (by decide)) rfl rfl (b2 330 (by decide)) rfl rfl (b1 73 (by decide))) (by omega) y5 (qc_u_at S1.1 291 71 _) ((b1 0 (by decide)).trans ((y2.1 291 0 (by omega) (by omega) (by omega)).trans h0)) (hP (t + 1) C1 S1 0 _ (e5 rfl)).2
        obtain ⟨C2, S2, m2, t2, kk, i1, i2, i3, i4, i5, i6, i7, i8⟩ := ih
        refine ⟨C2, S2, m2, t2, kk, qx_zc_tr hzc i1, qx_zs_tr hzs i2, i3, i4, i5, i6, i7, ?_⟩
        rcases i8 with ⟨j1, j2, ⟨j3, j4, j5⟩, ⟨j6, j7⟩, j8, j9, j10⟩ | j
        · refine Or.inl ⟨j1, j2, ⟨j3.trans (x2'.trans ?_), j4.trans (x3.trans ?_), j5.trans (x4.trans ?_)⟩, ⟨j6.trans ((b1 79 (by decide)).trans x5), j7.trans ((b1 80 (by decide)).trans x6)⟩, j8, j9, j10⟩
          · exact congrFun (a1 280 (by decide)) 1
          · exact congrFun (a1 280 (by decide)) 2
          · exact congrFun (a1 280 (by decide)) 3
        · exact Or.inr j
end
