/-! groups -/
def qx_gc (C C' : qcM) : Prop := (∀ a k, a ≠ 281 → ¬ (a = 280 ∧ k = 5) → C'.1 a k = C.1 a k) ∧ (∀ a, a ≠ 283 → a ≠ 284 → C'.2.1 a = C.2.1 a) ∧ (∀ a, a ≠ 285 → C'.2.2.1 a = C.2.2.1 a) ∧ C'.2.2.2 = C.2.2.2
def qx_gs (S S' : qcM) : Prop := (∀ a k, a ≠ 333 → ¬ (a = 291 ∧ (k = 69 ∨ k = 79 ∨ k = 80 ∨ k = 81)) → S'.1 a k = S.1 a k) ∧ (∀ a, a ≠ 335 → a ≠ 336 → S'.2.1 a = S.2.1 a) ∧ (∀ a, a ≠ 337 → S'.2.2.1 a = S.2.2.1 a) ∧ S'.2.2.2 = S.2.2.2
/-- one group of both -/
def qx_g1 (c t : Nat) (C S : qcM) (k : Nat) : Prop := C.1 281 k = S.1 333 k ∧ (∃ v, v ≤ t ∧ C.1 281 k = nI v) ∧ C.2.1 283 k = S.2.1 335 k ∧ (c ≤ 2 → C.2.1 284 k = S.2.1 336 k) ∧ (3 ≤ c → C.2.2.1 285 k = S.2.2.1 337 k ∧ (C.1 281 k = 0 → C.2.2.1 285 k = 0)) ∧ qf_N (S.2.2.1 337 k) ∧ (c = 3 → qf_isF (S.2.2.1 337 k))
def qx_G (c t h : Nat) (C S : qcM) : Prop := C.1 280 5 = nI h ∧ S.1 291 81 = nI h ∧ h ≤ 8 ∧ ∀ k, k < h → qx_g1 c t C S k
theorem qx_g1_mono {c t t' : Nat} {C S : qcM} {k : Nat} (h : qx_g1 c t C S k) (ht : t ≤ t') : qx_g1 c t' C S k := by
  obtain ⟨h1, ⟨v, h2, h3⟩, h4⟩ := h
  exact ⟨h1, ⟨v, by omega, h3⟩, h4⟩
theorem qx_g1_co {c t : Nat} {C S C' S' : qcM} {k : Nat} (h : qx_g1 c t C S k) (h1 : C'.1 281 k = C.1 281 k) (h2 : S'.1 333 k = S.1 333 k) (h3 : C'.2.1 283 k = C.2.1 283 k) (h4 : S'.2.1 335 k = S.2.1 335 k) (h5 : C'.2.1 284 k = C.2.1 284 k) (h6 : S'.2.1 336 k = S.2.1 336 k) (h7 : C'.2.2.1 285 k = C.2.2.1 285 k) (h8 : S'.2.2.1 337 k = S.2.2.1 337 k) : qx_g1 c t C' S' k := by
  unfold qx_g1 at h ⊢
  rw [h1, h2, h3, h4, h5, h6, h7, h8]
  exact h
theorem qx_G_co {c t h : Nat} {C S C' S' : qcM} (hG : qx_G c t h C S) (h1 : ∀ k, C'.1 281 k = C.1 281 k) (h2 : ∀ k, S'.1 333 k = S.1 333 k) (h3 : ∀ k, C'.2.1 283 k = C.2.1 283 k) (h4 : ∀ k, S'.2.1 335 k = S.2.1 335 k) (h5 : ∀ k, C'.2.1 284 k = C.2.1 284 k) (h6 : ∀ k, S'.2.1 336 k = S.2.1 336 k) (h7 : ∀ k, C'.2.2.1 285 k = C.2.2.1 285 k) (h8 : ∀ k, S'.2.2.1 337 k = S.2.2.1 337 k) (h9 : C'.1 280 5 = C.1 280 5) (h10 : S'.1 291 81 = S.1 291 81) : qx_G c t h C' S' :=
  ⟨h9.trans hG.1, h10.trans hG.2.1, hG.2.2.1, fun k hk => qx_g1_co (hG.2.2.2 k hk) (h1 k) (h2 k) (h3 k) (h4 k) (h5 k) (h6 k) (h7 k) (h8 k)⟩
/-- what is known of the query of a fold -/
def qx_Q (c q : Nat) (hw : Int32) (C S : qcM) : Prop := q < 12 ∧ 1 ≤ c ∧ c ≤ 4 ∧ qq_how (C.2.2.2 280 12) hw ∧ C.1 280 13 = nI c ∧ S.1 291 72 = nI q ∧ S.1 321 q = hw ∧ S.1 322 q = nI c ∧ (hw = 0 ∧ c = 2 ∨ hw = 1 ∧ c = 2 ∨ hw = 1 ∧ c = 4 ∨ hw = 4 ∧ c = 4 ∨ hw = 2 ∨ hw = 3)
section
variable {w : qcW} {C S : qcM} {c t h g q : Nat} {hw : Int32} {x1 x3 y3 : Int64} {x5 y5 : UInt64}
theorem qx_fold1 (hQ : qx_Q c q hw C S) (hG : qx_G c t h C S) (ht : t ≤ 16) (hg : g < h) (e3 : c ≤ 2 → x3 = y3) (e5 : 3 ≤ c → x5 = y5) (hN : qf_N y5) (hF : c = 3 → qf_isF y5) :
    ∃ (f : Int32) (C' S' : qcM), fX3_fold_b31 w C.1 C.2.1 C.2.2.1 C.2.2.2 x3 x5 (nI g) = some (f, C') ∧ fX12_folds_b118 w S.1 S.2.1 S.2.2.1 S.2.2.2 y3 y5 (nI g) = some (decide (f = 0), S') ∧ qx_gc C C' ∧ qx_gs S S' ∧
      (f = 0 → qx_G c (t + 1) h C' S' ∧ S'.1 291 69 = S.1 291 69 ∧ S'.1 291 79 = S.1 291 79 ∧ S'.1 291 80 = S.1 291 80) ∧ (f ≠ 0 → S'.1 291 69 = f ∧ S'.1 291 79 = 3 ∧ S'.1 291 80 = 0) := by
  obtain ⟨q1, q2, q3, q4, q5, q6, q7, q8, q9⟩ := hQ
  obtain ⟨g1, g2, g3, g4⟩ := id hG
  obtain ⟨k1, ⟨v, k2, k3⟩, k4, k5, k6, k7, k8⟩ := g4 g hg
  have hg8 : g < 8 := by omega
  have eM := mx_fold (w := w) (I := S.1) (L := S.2.1) (D := S.2.2.1) (R := S.2.2.2) (x3 := y3) hg8 q1 q6 q7 q8 q3 q9 k7 hN
  have i81 : ∀ k, k ≠ g → qc_u C.1 281 g (C.1 281 g + 1) 281 k = C.1 281 k := fun k hk => qc_u_ne _ _ (Or.inr hk)
  have i33 : ∀ k, k ≠ g → qc_u S.1 333 g (S.1 333 g + 1) 333 k = S.1 333 k := fun k hk => qc_u_ne _ _ (Or.inr hk)
  have cnt : ∃ v', v' ≤ t + 1 ∧ C.1 281 g + 1 = nI v' := ⟨v + 1, by omega, by rw [k3, qi_s1]⟩
  have cnt0 : ¬ C.1 281 g + 1 = 0 := by
    rw [k3, qi_s1]
    exact fun z => by have := qi_nI_inj (j := 0) (by omega) (by decide) z; omega
  have fs : ∀ (A : Int64) (B : UInt64), qx_gs S (qc_u S.1 333 g (S.1 333 g + 1), qc_u S.2.1 336 g A, qc_u S.2.2.1 337 g B, S.2.2.2) := fun A B => ⟨fun a k x y => qc_u_ne _ _ (Or.inl x), fun a x y => qc_u_off _ _ y, fun a x => qc_u_off _ _ x, rfl⟩
  have u3 : ∀ k, qc_u S.1 333 g (S.1 333 g + 1) 291 k = S.1 291 k := fun k => qc_u_ne _ _ (Or.inl (by decide))
  have u5 : ∀ k, qc_u C.1 281 g (C.1 281 g + 1) 280 k = C.1 280 k := fun k => qc_u_ne _ _ (Or.inl (by decide))
  have w0 : ∀ A k, qc_u S.2.1 336 g A 335 k = S.2.1 335 k := fun A k => qc_u_ne _ _ (Or.inl (by decide))
  have w1 : ∀ A k, k ≠ g → qc_u S.2.1 336 g A 336 k = S.2.1 336 k := fun A k hk => qc_u_ne _ _ (Or.inr hk)
  have w2 : ∀ A k, k ≠ g → qc_u S.2.2.1 337 g A 337 k = S.2.2.1 337 k := fun A k hk => qc_u_ne _ _ (Or.inr hk)
  have w3 : ∀ A k, k ≠ g → qc_u C.2.2.1 285 g A 285 k = C.2.2.1 285 k := fun A k hk => qc_u_ne _ _ (Or.inr hk)
  have w4 : ∀ A k, k ≠ g → qc_u C.2.1 284 g A 284 k = C.2.1 284 k := fun A k hk => qc_u_ne _ _ (Or.inr hk)
  have w5 : ∀ A k, qc_u C.2.1 284 g A 283 k = C.2.1 283 k := fun A k => qc_u_ne _ _ (Or.inl (by decide))
  by_cases c3 : 3 ≤ c
  · have d5 := (k6 c3).1
    have e5 := e5 c3
    subst e5
    have eX := cx_foldD (w := w) (I := C.1) (L := C.2.1) (D := C.2.2.1) (R := C.2.2.2) (x3 := x3) hg8 q4 q5 c3 q3 (by rw [d5]; exact k7) hN
    rw [d5] at eX
    have hB : ¬ (hw = 0 ∨ hw = 1 ∧ c = 2) := by
      rintro (z | ⟨_, z⟩)
      · subst z
        rcases q9 with ⟨_, z⟩ | ⟨z, _⟩ | ⟨z, _⟩ | ⟨z, _⟩ | z | z
        · omega
        all_goals exact absurd z (by decide)
      · omega
    rw [if_neg hB] at eM
    by_cases hl : (hw = 1 ∨ hw = 4) ∧ qf_lost 1 (S.2.2.1 337 g) x5 = true
    · rw [if_pos hl] at eX
      rw [if_pos ⟨c3, hl⟩] at eM
      refine ⟨5, _, (_, _, _, _), eX, eM, ⟨fun _ _ _ _ => rfl, fun _ _ _ => rfl, fun _ _ => rfl, rfl⟩, ⟨fun a k x y => ?_, fun _ _ _ => rfl, fun _ _ => rfl, rfl⟩, fun z => absurd z (by decide), fun _ => ⟨?_, ?_, ?_⟩⟩
      · show qc_u (qc_u (qc_u S.1 291 69 5) 291 79 3) 291 80 0 a k = _
        rw [qc_u_ne _ _ (by omega), qc_u_ne _ _ (by omega), qc_u_ne _ _ (by omega)]
      · show qc_u (qc_u (qc_u S.1 291 69 5) 291 79 3) 291 80 0 291 69 = _
        rw [qc_u_ne _ _ (Or.inr (by decide)), qc_u_ne _ _ (Or.inr (by decide)), qc_u_at]
      · show qc_u (qc_u (qc_u S.1 291 69 5) 291 79 3) 291 80 0 291 79 = _
        rw [qc_u_ne _ _ (Or.inr (by decide)), qc_u_at]
      · show qc_u (qc_u (qc_u S.1 291 69 5) 291 79 3) 291 80 0 291 80 = _
        rw [qc_u_at]
    · rw [if_neg hl] at eX
      rw [if_neg (fun z => hl z.2)] at eM
      refine ⟨0, (_, _, _, _), (_, _, _, _), eX, eM, ⟨fun a k x y => qc_u_ne _ _ (Or.inl x), fun _ _ _ => rfl, fun a x => qc_u_off _ _ x, rfl⟩, fs _ _, fun _ => ⟨⟨(u5 5).trans g1, (u3 81).trans g2, g3, fun k hk => ?_⟩, u3 69, u3 79, u3 80⟩, fun z => absurd rfl z⟩
      by_cases hkg : k = g
      · subst hkg
        unfold qx_g1
        dsimp only
        rw [qc_u_at, qc_u_at, qc_u_at, qc_u_at, qc_u_at, qc_u_off _ _ (show 335 ≠ 336 by decide), k1]
        rw [k1] at cnt cnt0
        exact ⟨rfl, cnt, k4, fun z => by omega, fun _ => ⟨rfl, fun z => absurd z cnt0⟩, qg_D_N k7 hN hl, fun z => qg_D_F (k8 z) (hF z) (by
          intro y
          rcases q9 with ⟨z1, z2⟩ | ⟨z1, z2⟩ | ⟨z1, z2⟩ | ⟨z1, z2⟩ | z1 | z1
          · omega
          · omega
          · omega
          · omega
          · subst z1; revert y; decide
          · subst z1; revert y; decide)⟩
      · exact qx_g1_co (qx_g1_mono (g4 k hk) (Nat.le_succ t)) (i81 k hkg) (i33 k hkg) rfl (by dsimp only; exact w0 _ k) rfl (w1 _ k hkg) (w3 _ k hkg) (w2 _ k hkg)
  · have eX := cx_foldL (w := w) (I := C.1) (L := C.2.1) (D := C.2.2.1) (R := C.2.2.2) (x3 := x3) (x5 := x5) hg8 q4 q5 (by omega)
    have e3 := e3 (by omega)
    subst e3
    rw [if_neg (fun z => c3 z.1), if_neg (fun z => c3 z.1)] at eM
    have hl : ¬ ((hw = 1 ∨ hw = 4) ∧ ¬ (hw = 0 ∨ hw = 1 ∧ c = 2)) := by
      rintro ⟨z1, z2⟩
      rcases q9 with ⟨y1, y2⟩ | ⟨y1, y2⟩ | ⟨y1, y2⟩ | ⟨y1, y2⟩ | y1 | y1
      · exact z2 (Or.inl y1)
      · exact z2 (Or.inr ⟨y1, y2⟩)
      · omega
      · omega
      · subst y1; revert z1; decide
      · subst y1; revert z1; decide
    refine ⟨0, (_, _, _, _), (_, _, _, _), eX, eM, ⟨fun a k x y => qc_u_ne _ _ (Or.inl x), fun a x y => qc_u_off _ _ y, fun a x => rfl, rfl⟩, fs _ _, fun _ => ⟨⟨(u5 5).trans g1, (u3 81).trans g2, g3, fun k hk => ?_⟩, u3 69, u3 79, u3 80⟩, fun z => absurd rfl z⟩
    by_cases hkg : k = g
    · subst hkg
      unfold qx_g1
      dsimp only
      rw [qc_u_at, qc_u_at, qc_u_at, qc_u_at, qc_u_at, qc_u_off _ _ (show 335 ≠ 336 by decide), qc_u_off _ _ (show 283 ≠ 284 by decide), k1, k5 (by omega)]
      rw [k1] at cnt
      refine ⟨rfl, cnt, k4, fun _ => rfl, fun z => by omega, ?_, fun z => by omega⟩
      by_cases z : hw = 0 ∨ hw = 1 ∧ c = 2
      · rw [if_pos z]
        exact k7
      · rw [if_neg z]
        exact qg_D_N k7 hN (fun y => hl ⟨y.1, z⟩)
    · exact qx_g1_co (qx_g1_mono (g4 k hk) (Nat.le_succ t)) (i81 k hkg) (i33 k hkg) (by dsimp only; exact w5 _ k) (by dsimp only; exact w0 _ k) (w4 _ k hkg) (w1 _ k hkg) rfl (w2 _ k hkg)
theorem qx_grp (h5 : C.1 280 5 = nI h) (h81 : S.1 291 81 = nI h) (h8 : h ≤ 8) (heq : ∀ k, k < h → C.2.1 283 k = S.2.1 335 k) (x1 : Int64) : ∀ (N i : Nat), h < N + i → i ≤ h → ∃ g, g ≤ h ∧ fX3_groupOf_l2 w N (C.1, C.2.1, C.2.2.1, C.2.2.2, x1, nI i) = some (nI g, C) ∧ ∀ x3 x5, fX12_folds_l3 w N (S.1, S.2.1, S.2.2.1, S.2.2.2, x1, x3, x5, nI i) = fX12_folds_b30 w S.1 S.2.1 S.2.2.1 S.2.2.2 x1 x3 x5 (nI g)
  | 0, i, h1, h2 => by omega
  | N + 1, i, h1, h2 => by
    rw [fX3_groupOf_l2_s]
    simp only [fX12_folds_l3_s]
    unfold fX3_groupOf_b2 fX12_folds_b3
    rw [h5]
    simp only [h81]
    by_cases hi : i = h
    · subst hi
      exact ⟨i, Nat.le_refl _, by rw [if_pos (Int32.le_refl _)], fun x3 x5 => by rw [if_pos (Int32.le_refl _)]⟩
    · have hlt : i < h := by omega
      have hn : ¬ nI h ≤ nI i := fun z => by have := (qi_le (by omega) (by omega)).mp z; omega
      rw [if_neg hn, qi_inbN (show i < 8 by omega) (by decide), qc_gdt, nI_clamp (by omega), heq i hlt]
      simp only [if_neg hn, qc_gdt, lg_cmp_eq]
      by_cases hk : S.2.1 335 i = x1
      · exact ⟨i, h2, by rw [if_pos hk], fun x3 x5 => by rw [if_pos hk]⟩
      · rw [if_neg hk]
        simp only [if_neg hk]
        obtain ⟨g, g1, g2, g3⟩ := qx_grp h5 h81 h8 heq x1 N (i + 1) (by omega) (by omega)
        exact ⟨g, g1, by rw [qi_s1]; exact g2, fun x3 x5 => by rw [qi_s1]; exact g3 x3 x5⟩
theorem qx_F8 : 8 < qcF + 0 := by unfold qcF; omega
theorem qf_isF_0 : qf_isF 0 := ⟨0, by decide, by decide⟩
theorem qx_fold (hQ : qx_Q c q hw C S) (hG : qx_G c t h C S) (ht : t ≤ 16) (x1 : Int64) (e3 : c ≤ 2 → x3 = y3) (e5 : 3 ≤ c → x5 = y5) (hN : qf_N y5) (hF : c = 3 → qf_isF y5) :
    ∃ (f : Int32) (C' S' : qcM), fX3_fold w C.1 C.2.1 C.2.2.1 C.2.2.2 x1 x3 x5 = some (f, C') ∧ fX12_folds w S.1 S.2.1 S.2.2.1 S.2.2.2 x1 y3 y5 = some (decide (f = 0), S') ∧ qx_gc C C' ∧ qx_gs S S' ∧
      (f = 0 → ∃ h', qx_G c (t + 1) h' C' S' ∧ S'.1 291 69 = S.1 291 69 ∧ S'.1 291 79 = S.1 291 79 ∧ S'.1 291 80 = S.1 291 80) ∧ (f ≠ 0 → S'.1 291 69 = f ∧ S'.1 291 79 = 3 ∧ S'.1 291 80 = 0) := by
  obtain ⟨g1, g2, g3, g4⟩ := id hG
  obtain ⟨g, hg, e1, e2⟩ := qx_grp (w := w) g1 g2 g3 (fun k hk => (g4 k hk).2.2.1) x1 qcF 0 (by have := qx_F8; omega) (Nat.zero_le _)
  have e2 := e2 y3 y5
  unfold fX3_fold fX12_folds fX3_groupOf
  have z0 : (0 : Int32) = nI 0 := rfl
  rw [z0, e1, e2, qc_bds, ← z0]
  unfold fX12_folds_b30 fX12_folds_b55 fX12_folds_b69
  rw [g1, g2]
  by_cases hgh : g = h
  · subst hgh
    rw [if_pos rfl, if_pos rfl, if_pos rfl]
    by_cases g8 : g = 8
    · subst g8
      rw [if_neg (show ¬ nI 8 < (8 : Int32) by decide), if_pos (show nI 8 = (8 : Int32) from rfl)]
      unfold fX12_fails
      refine ⟨6, C, (_, _, _, _), rfl, rfl, ⟨fun _ _ _ _ => rfl, fun _ _ _ => rfl, fun _ _ => rfl, rfl⟩, ⟨fun a k x y => ?_, fun _ _ _ => rfl, fun _ _ => rfl, rfl⟩, fun z => absurd z (by decide), fun _ => ⟨?_, ?_, ?_⟩⟩
      · show qc_u (qc_u (qc_u S.1 291 69 6) 291 79 3) 291 80 0 a k = _
        rw [qc_u_ne _ _ (by omega), qc_u_ne _ _ (by omega), qc_u_ne _ _ (by omega)]
      · show qc_u (qc_u (qc_u S.1 291 69 6) 291 79 3) 291 80 0 291 69 = _
        rw [qc_u_ne _ _ (Or.inr (by decide)), qc_u_ne _ _ (Or.inr (by decide)), qc_u_at]
      · show qc_u (qc_u (qc_u S.1 291 69 6) 291 79 3) 291 80 0 291 79 = _
        rw [qc_u_ne _ _ (Or.inr (by decide)), qc_u_at]
      · show qc_u (qc_u (qc_u S.1 291 69 6) 291 79 3) 291 80 0 291 80 = _
        rw [qc_u_at]
    · have h8 : nI g < (8 : Int32) := (qi_lt (b := 8) (by omega) (by decide)).mpr (by omega)
      have n8 : ¬ nI g = (8 : Int32) := fun z => g8 (qi_nI_inj (j := 8) (by omega) (by decide) z)
      have hcl : (nI g).toNatClampNeg = g := nI_clamp (by omega)
      have oX : fX3_openGroup w C.1 C.2.1 C.2.2.1 C.2.2.2 x1 = some ((), qc_u (qc_u C.1 281 g 0) 280 5 (nI (g + 1)), qc_u (qc_u C.2.1 283 g x1) 284 g 0, qc_u C.2.2.1 285 g 0, C.2.2.2) := by
        unfold fX3_openGroup
        rw [qc_u_ne _ _ (Or.inl (show 280 ≠ 281 by decide)), g1, qi_inbN (show g < 16 by omega) (by decide), qc_gdt, qi_inbN (show g < 8 by omega) (by decide), qc_gdt, qc_gdt, qc_gdt, hcl, qi_s1]
      rw [if_pos h8, if_neg n8, oX, qc_bds, if_neg (show ¬ (1 : Int32) = 0 by decide), qi_inbN (show g < 8 by omega) (by decide), qi_inbN (show g < 16 by omega) (by decide), qc_gdt, qc_gdt, qc_gdt, qc_gdt, hcl, qc_u_ne _ _ (Or.inl (show 291 ≠ 333 by decide)), g2, qi_s1]
      have a1 : ∀ k, k ≠ 5 → qc_u (qc_u C.1 281 g 0) 280 5 (nI (g + 1)) 280 k = C.1 280 k := fun k hk => by rw [qc_u_ne _ _ (Or.inr hk), qc_u_ne _ _ (Or.inl (by decide))]
      have a2 : ∀ k, qc_u (qc_u C.1 281 g 0) 280 5 (nI (g + 1)) 281 k = qc_u C.1 281 g 0 281 k := fun k => qc_u_ne _ _ (Or.inl (by decide))
      have b1 : ∀ k, k ≠ 81 → qc_u (qc_u S.1 333 g 0) 291 81 (nI (g + 1)) 291 k = S.1 291 k := fun k hk => by rw [qc_u_ne _ _ (Or.inr hk), qc_u_ne _ _ (Or.inl (by decide))]
      have b2 : ∀ k, qc_u (qc_u S.1 333 g 0) 291 81 (nI (g + 1)) 333 k = qc_u S.1 333 g 0 333 k := fun k => qc_u_ne _ _ (Or.inl (by decide))
      have b3 : ∀ a k, a ≠ 291 → a ≠ 333 → qc_u (qc_u S.1 333 g 0) 291 81 (nI (g + 1)) a k = S.1 a k := fun a k x y => by rw [qc_u_ne _ _ (Or.inl x), qc_u_ne _ _ (Or.inl y)]
      have l3 : ∀ k, qc_u (qc_u C.2.1 283 g x1) 284 g 0 283 k = qc_u C.2.1 283 g x1 283 k := fun k => qc_u_ne _ _ (Or.inl (by decide))
      have l4 : ∀ k, k ≠ g → qc_u (qc_u C.2.1 283 g x1) 284 g 0 284 k = C.2.1 284 k := fun k hk => by rw [qc_u_ne _ _ (Or.inr hk), qc_u_ne _ _ (Or.inl (by decide))]
      have m3 : ∀ k, qc_u (qc_u S.2.1 335 g x1) 336 g 0 335 k = qc_u S.2.1 335 g x1 335 k := fun k => qc_u_ne _ _ (Or.inl (by decide))
      have m4 : ∀ k, k ≠ g → qc_u (qc_u S.2.1 335 g x1) 336 g 0 336 k = S.2.1 336 k := fun k hk => by rw [qc_u_ne _ _ (Or.inr hk), qc_u_ne _ _ (Or.inl (by decide))]
      obtain ⟨q1, q2, q3, q4, q5, q6, q7, q8, q9⟩ := hQ
      obtain ⟨f, C', S', f1, f2, f3, f4, f5, f6⟩ := qx_fold1 (w := w) (C := (qc_u (qc_u C.1 281 g 0) 280 5 (nI (g + 1)), qc_u (qc_u C.2.1 283 g x1) 284 g 0, qc_u C.2.2.1 285 g 0, C.2.2.2)) (S := (qc_u (qc_u S.1 333 g 0) 291 81 (nI (g + 1)), qc_u (qc_u S.2.1 335 g x1) 336 g 0, qc_u S.2.2.1 337 g 0, S.2.2.2)) (c := c) (t := t) (h := g + 1) (g := g) (q := q) (hw := hw) (x3 := x3) (y3 := y3) (x5 := x5) (y5 := y5)
        ⟨q1, q2, q3, q4, (a1 13 (by decide)).trans q5, (b1 72 (by decide)).trans q6, (b3 321 q (by decide) (by decide)).trans q7, (b3 322 q (by decide) (by decide)).trans q8, q9⟩
        ⟨qc_u_at (qc_u C.1 281 g 0) 280 5 _, qc_u_at (qc_u S.1 333 g 0) 291 81 _, by omega, fun k hk => by
          by_cases hkg : k = g
          · subst hkg
            unfold qx_g1
            dsimp only
            rw [a2, b2, l3, m3, qc_u_at, qc_u_at, qc_u_at, qc_u_at, qc_u_at, qc_u_at, qc_u_at, qc_u_at]
            exact ⟨rfl, ⟨0, Nat.zero_le _, rfl⟩, rfl, fun _ => rfl, fun _ => ⟨rfl, fun _ => rfl⟩, (qf_n64 _).mp (by decide), fun _ => qf_isF_0⟩
          · exact qx_g1_co (g4 k (by omega)) ((a2 k).trans (qc_u_ne _ _ (Or.inr hkg))) ((b2 k).trans (qc_u_ne _ _ (Or.inr hkg))) ((l3 k).trans (qc_u_ne _ _ (Or.inr hkg))) ((m3 k).trans (qc_u_ne _ _ (Or.inr hkg))) (l4 k hkg) (m4 k hkg) (by dsimp only; exact qc_u_ne _ _ (Or.inr hkg)) (by dsimp only; exact qc_u_ne _ _ (Or.inr hkg))⟩
        ht (Nat.lt_succ_self g) e3 e5 hN hF
      refine ⟨f, C', S', f1, f2, ?_, ?_, fun hf => ?_, f6⟩
      · obtain ⟨y1, y2, y3, y4⟩ := f3
        refine ⟨fun a k x y => (y1 a k x y).trans ?_, fun a x y => (y2 a x y).trans ?_, fun a x => (y3 a x).trans ?_, y4⟩
        · dsimp only
          rw [qc_u_ne _ _ (by omega), qc_u_ne _ _ (Or.inl x)]
        · dsimp only
          rw [qc_u_off _ _ y, qc_u_off _ _ x]
        · dsimp only
          rw [qc_u_off _ _ x]
      · obtain ⟨y1, y2, y3, y4⟩ := f4
        refine ⟨fun a k x y => (y1 a k x y).trans ?_, fun a x y => (y2 a x y).trans ?_, fun a x => (y3 a x).trans ?_, y4⟩
        · dsimp only
          rw [qc_u_ne _ _ (by omega), qc_u_ne _ _ (Or.inl x)]
        · dsimp only
          rw [qc_u_off _ _ y, qc_u_off _ _ x]
        · dsimp only
          rw [qc_u_off _ _ x]
      · obtain ⟨y1, y2, y3, y4⟩ := f5 hf
        exact ⟨g + 1, y1, y2.trans (b1 69 (by decide)), y3.trans (b1 79 (by decide)), y4.trans (b1 80 (by decide))⟩
  · have ne : ¬ nI g = nI h := fun z => hgh (qi_nI_inj (by omega) (by omega) z)
    have h8 : nI g < (8 : Int32) := (qi_lt (b := 8) (by omega) (by decide)).mpr (by omega)
    rw [if_pos h8, if_neg ne, if_neg ne, if_neg ne, if_pos rfl]
    obtain ⟨f, C', S', f1, f2, f3, f4, f5, f6⟩ := qx_fold1 (w := w) (x3 := x3) (y3 := y3) (x5 := x5) (y5 := y5) hQ hG ht (show g < h by omega) e3 e5 hN hF
    exact ⟨f, C', S', f1, f2, f3, f4, fun hf => ⟨h, f5 hf⟩, f6⟩
end
