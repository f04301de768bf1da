/-! groups -/
def qx_gc (C C' : qcM) : Prop := (∀ a k, a ≠ 281 → ¬ (a = 280 ∧ k = 5) → C'.1 a k = C.1 a k) ∧ (∀ a, a ≠ 283 → a ≠ 284 → C'.2.1 a = C.2.1 a) ∧ (∀ a, a ≠ 285 → C'.2.2.1 a = C.2.2.1 a) ∧ C'.2.2.2 = C.2.2.2
def qx_gs (S S' : qcM) : Prop := (∀ a k, a ≠ 333 → ¬ (a = 291 ∧ (k = 69 ∨ k = 79 ∨ k = 80 ∨ k = 81)) → S'.1 a k = S.1 a k) ∧ (∀ a, a ≠ 335 → a ≠ 336 → S'.2.1 a = S.2.1 a) ∧ (∀ a, a ≠ 337 → S'.2.2.1 a = S.2.2.1 a) ∧ S'.2.2.2 = S.2.2.2
/-- one group of both -/
def qx_g1 (c t : Nat) (C S : qcM) (k : Nat) : Prop := C.1 281 k = S.1 333 k ∧ (∃ v, v ≤ t ∧ C.1 281 k = nI v) ∧ C.2.1 283 k = S.2.1 335 k ∧ (c ≤ 2 → C.2.1 284 k = S.2.1 336 k) ∧ (3 ≤ c → C.2.2.1 285 k = S.2.2.1 337 k ∧ (C.1 281 k = 0 → C.2.2.1 285 k = 0)) ∧ qf_N (S.2.2.1 337 k) ∧ (c = 3 → qf_isF (S.2.2.1 337 k))
def qx_G (c t h : Nat) (C S : qcM) : Prop := C.1 280 5 = nI h ∧ S.1 291 81 = nI h ∧ h ≤ 8 ∧ ∀ k, k < h → qx_g1 c t C S k
theorem qx_g1_mono {c t t' : Nat} {C S : qcM} {k : Nat} (h : qx_g1 c t C S k) (ht : t ≤ t') : qx_g1 c t' C S k := by
  obtain ⟨h1, ⟨v, h2, h3⟩, h4⟩ := h
  exact ⟨h1, ⟨v, by omega, h3⟩, h4⟩
theorem qx_g1_co {c t : Nat} {C S C' S' : qcM} {k : Nat} (h : qx_g1 c t C S k) (h1 : C'.1 281 k = C.1 281 k) (h2 : S'.1 333 k = S.1 333 k) (h3 : C'.2.1 283 k = C.2.1 283 k) (h4 : S'.2.1 335 k = S.2.1 335 k) (h5 : C'.2.1 284 k = C.2.1 284 k) (h6 : S'.2.1 336 k = S.2.1 336 k) (h7 : C'.2.2.1 285 k = C.2.2.1 285 k) (h8 : S'.2.2.1 337 k = S.2.2.1 337 k) : qx_g1 c t C' S' k := by
  unfold qx_g1 at h ⊢
  rw [h1, h2, h3, h4, h5, h6, h7, h8]
  exact h
theorem qx_G_co {c t h : Nat} {C S C' S' : qcM} (hG : qx_G c t h C S) (h1 : ∀ k, C'.1 281 k = C.1 281 k) (h2 : ∀ k, S'.1 333 k = S.1 333 k) (h3 : ∀ k, C'.2.1 283 k = C.2.1 283 k) (h4 : ∀ k, S'.2.1 335 k = S.2.1 335 k) (h5 : ∀ k, C'.2.1 284 k = C.2.1 284 k) (h6 : ∀ k, S'.2.1 336 k = S.2.1 336 k) (h7 : ∀ k, C'.2.2.1 285 k = C.2.2.1 285 k) (h8 : ∀ k, S'.2.2.1 337 k = S.2.2.1 337 k) (h9 : C'.1 280 5 = C.1 280 5) (h10 : S'.1 291 81 = S.1 291 81) : qx_G c t h C' S' :=
  ⟨h9.trans hG.1, h10.trans hG.2.1, hG.2.2.1, fun k hk => qx_g1_co (hG.2.2.2 k hk) (h1 k) (h2 k) (h3 k) (h4 k) (h5 k) (h6 k) (h7 k) (h8 k)⟩
/-- what is known of the query of a fold -/
def qx_Q (c q : Nat) (hw : Int32) (C S : qcM) : Prop := q < 12 ∧ 1 ≤ c ∧ c ≤ 4 ∧ qq_how (C.2.2.2 280 12) hw ∧ C.1 280 13 = nI c ∧ S.1 291 72 = nI q ∧ S.1 321 q = hw ∧ S.1 322 q = nI c ∧ (hw = 0 ∧ c = 2 ∨ hw = 1 ∧ c = 2 ∨ hw = 1 ∧ c = 4 ∨ hw = 4 ∧ c = 4 ∨ hw = 2 ∨ hw = 3)
section
variable {w : qcW} {C S : qcM} {c t h g q : Nat} {hw : Int32} {x1 x3 y3 : Int64} {x5 y5 : UInt64}
theorem qx_fold1 (hQ : qx_Q c q hw C S) (hG : qx_G c t h C S) (ht : t ≤ 16) (hg : g < h) (e3 : c ≤ 2 → x3 = y3) (e5 : 3 ≤ c → x5 = y5) (hN : qf_N y5) (hF : c = 3 → qf_isF y5) :
    ∃ (f : Int32) (C' S' : qcM), fX3_fold_b31 w C.1 C.2.1 C.2.2.1 C.2.2.2 x3 x5 (nI g) = some (f, C') ∧ fX12_folds_b118 w S.1 S.2.1 S.2.2.1 S.2.2.2 y3 y5 (nI g) = some (decide (f = 0), S') ∧ qx_gc C C' ∧ qx_gs S S' ∧
      (f = 0 → qx_G c (t + 1) h C' S' ∧ S'.1 291 69 = S.1 291 69 ∧ S'.1 291 79 = S.1 291 79 ∧ S'.1 291 80 = S.1 291 80) ∧ (f ≠ 0 → S'.1 291 69 = f ∧ S'.1 291 79 = 3 ∧ S'.1 291 80 = 0) := by
  obtain ⟨q1, q2, q3, q4, q5, q6, q7, q8, q9⟩ := hQ
  obtain ⟨g1, g2, g3, g4⟩ := id hG
  obtain ⟨k1, ⟨v, k2, k3⟩, k4, k5, k6, k7, k8⟩ := g4 g hg
  have hg8 : g < 8 := by omega
  have eM := mx_fold (w := w) (I := S.1) (L := S.2.1) (D := S.2.2.1) (R := S.2.2.2) (x3 := y3) hg8 q1 q6 q7 q8 q3 q9 k7 hN
  have i81 : ∀ k, k ≠ g → qc_u C.1 281 g (C.1 281 g + 1) 281 k = C.1 281 k := fun k hk => qc_u_ne _ _ (Or.inr hk)
  have i33 : ∀ k, k ≠ g → qc_u S.1 333 g (S.1 333 g + 1) 333 k = S.1 333 k := fun k hk => qc_u_ne _ _ (Or.inr hk)
  have cnt : ∃ v', v' ≤ t + 1 ∧ C.1 281 g + 1 = nI v' := ⟨v + 1, by omega, by rw [k3, qi_s1]⟩
  have cnt0 : ¬ C.1 281 g + 1 = 0 := by
    rw [k3, qi_s1]
    exact fun z => by have := qi_nI_inj (j := 0) (by omega) (by decide) z; omega
  have fs : ∀ (A : Int64) (B : UInt64), qx_gs S (qc_u S.1 333 g (S.1 333 g + 1), qc_u S.2.1 336 g A, qc_u S.2.2.1 337 g B, S.2.2.2) := fun A B => ⟨fun a k x y => qc_u_ne _ _ (Or.inl x), fun a x y => qc_u_off _ _ y, fun a x => qc_u_off _ _ x, rfl⟩
  have u3 : ∀ k, qc_u S.1 333 g (S.1 333 g + 1) 291 k = S.1 291 k := fun k => qc_u_ne _ _ (Or.inl (by decide))
  have u5 : ∀ k, qc_u C.1 281 g (C.1 281 g + 1) 280 k = C.1 280 k := fun k => qc_u_ne _ _ (Or.inl (by decide))
  have w0 : ∀ A k, qc_u S.2.1 336 g A 335 k = S.2.1 335 k := fun A k => qc_u_ne _ _ (Or.inl (by decide))
  have w1 : ∀ A k, k ≠ g → qc_u S.2.1 336 g A 336 k = S.2.1 336 k := fun A k hk => qc_u_ne _ _ (Or.inr hk)
  have w2 : ∀ A k, k ≠ g → qc_u S.2.2.1 337 g A 337 k = S.2.2.1 337 k := fun A k hk => qc_u_ne _ _ (Or.inr hk)
  have w3 : ∀ A k, k ≠ g → qc_u C.2.2.1 285 g A 285 k = C.2.2.1 285 k := fun A k hk => qc_u_ne _ _ (Or.inr hk)
  have w4 : ∀ A k, k ≠ g → qc_u C.2.1 284 g A 284 k = C.2.1 284 k := fun A k hk => qc_u_ne _ _ (Or.inr hk)
  have w5 : ∀ A k, qc_u C.2.1 284 g A 283 k = C.2.1 283 k := fun A k => qc_u_ne _ _ (Or.inl (by decide))
  by_cases c3 : 3 ≤ c
  · have d5 := (k6 c3).1
    have e5 := e5 c3
    subst e5
    have eX := cx_foldD (w := w) (I := C.1) (L := C.2.1) (D := C.2.2.1) (R := C.2.2.2) (x3 := x3) hg8 q4 q5 c3 q3 (by rw [d5]; exact k7) hN
    rw [d5] at eX
    have hB : ¬ (hw = 0 ∨ hw = 1 ∧ c = 2) := by
      rintro (z | ⟨_, z⟩)
      · subst z
        rcases q9 with ⟨_, z⟩ | ⟨z, _⟩ | ⟨z, _⟩ | ⟨z, _⟩ | z | z
        · omega
        all_goals exact absurd z (by decide)
      · omega
    rw [if_neg hB] at eM
    by_cases hl : (hw = 1 ∨ hw = 4) ∧ qf_lost 1 (S.2.2.1 337 g) x5 = true
    · rw [if_pos hl] at eX
      rw [if_pos ⟨c3, hl⟩] at eM
      refine ⟨5, _, (_, _, _, _), eX, eM, ⟨fun _ _ _ _ => rfl, fun _ _ _ => rfl, fun _ _ => rfl, rfl⟩, ⟨fun a k x y => ?_, fun _ _ _ => rfl, fun _ _ => rfl, rfl⟩, fun z => absurd z (by decide), fun _ => ⟨?_, ?_, ?_⟩⟩
      · show qc_u (qc_u (qc_u S.1 291 69 5) 291 79 3) 291 80 0 a k = _
        rw [qc_u_ne _ _ (by omega), qc_u_ne _ _ (by omega), qc_u_ne _ _ (by omega)]
      · show qc_u (qc_u (qc_u S.1 291 69 5) 291 79 3) 291 80 0 291 69 = _
        rw [qc_u_ne _ _ (Or.inr (by decide)), qc_u_ne _ _ (Or.inr (by decide)), qc_u_at]
      · show qc_u (qc_u (qc_u S.1 291 69 5) 291 79 3) 291 80 0 291 79 = _
        rw [qc_u_ne _ _ (Or.inr (by decide)), qc_u_at]
      · show qc_u (qc_u (qc_u S.1 291 69 5) 291 79 3) 291 80 0 291 80 = _
        rw [qc_u_at]
    · rw [if_neg hl] at eX
      rw [if_neg (fun z => hl z.2)] at eM
      refine ⟨0, (_, _, _, _), (_, _, _, _), eX, eM, ⟨fun a k x y => qc_u_ne _ _ (Or.inl x), fun _ _ _ => rfl, fun a x => qc_u_off _ _ x, rfl⟩, fs _ _, fun _ => ⟨⟨(u5 5).trans g1, (u3 81).trans g2, g3, fun k hk => ?_⟩, u3 69, u3 79, u3 80⟩, fun z => absurd rfl z⟩
      by_cases hkg : k = g
      · subst hkg
        unfold qx_g1
        dsimp only
        rw [qc_u_at, qc_u_at, qc_u_at, qc_u_at, qc_u_at, qc_u_off _ _ (show 335 ≠ 336 by decide), k1]
        rw [k1] at cnt cnt0
        exact ⟨rfl, cnt, k4, fun z => by omega, fun _ => ⟨rfl, fun z => absurd z cnt0⟩, qg_D_N k7 hN hl, fun z => qg_D_F (k8 z) (hF z) (by
          intro y
          rcases q9 with ⟨z1, z2⟩ | ⟨z1, z2⟩ | ⟨z1, z2⟩ | ⟨z1, z2⟩ | z1 | z1
          · omega
          · omega
          · omega
          · omega
          · subst z1; revert y; decide
          · subst z1; revert y; decide)⟩
      · exact qx_g1_co (qx_g1_mono (g4 k hk) (Nat.le_succ t)) (i81 k hkg) (i33 k hkg) rfl (by dsimp only; exact w0 _ k) rfl (w1 _ k hkg) (w3 _ k hkg) (w2 _ k hkg)
  · have eX := cx_foldL (w := w) (I := C.1) (L := C.2.1) (D := C.2.2.1) (R := C.2.2.2) (x3 := x3) (x5 := x5) hg8 q4 q5 (by omega)
    have e3 := e3 (by omega)
    subst e3
    rw [if_neg (fun z => c3 z.1), if_neg (fun z => c3 z.1)] at eM
    have hl : ¬ ((hw = 1 ∨ hw = 4) ∧ ¬ (hw = 0 ∨ hw = 1 ∧ c = 2)) := by
      rintro ⟨z1, z2⟩
      rcases q9 with ⟨y1, y2⟩ | ⟨y1, y2⟩ | ⟨y1, y2⟩ | ⟨y1, y2⟩ | y1 | y1
      · exact z2 (Or.inl y1)
      · exact z2 (Or.inr ⟨y1, y2⟩)
      · omega
      · omega
      · subst y1; revert z1; decide
      · subst y1; revert z1; decide
    refine ⟨0, (_, _, _, _), (_, _, _, _), eX, eM, ⟨fun a k x y => qc_u_ne _ _ (Or.inl x), fun a x y => qc_u_off _ _ y, fun a x => rfl, rfl⟩, fs _ _, fun _ => ⟨⟨(u5 5).trans g1, (u3 81).trans g2, g3, fun k hk => ?_⟩, u3 69, u3 79, u3 80⟩, fun z => absurd rfl z⟩
    by_cases hkg : k = g
    · subst hkg
      unfold qx_g1
      dsimp only
      rw [qc_u_at, qc_u_at, qc_u_at, qc_u_at, qc_u_at, qc_u_off _ _ (show 335 ≠ 336 by decide), qc_u_off _ _ (show 283 ≠ 284 by decide), k1, k5 (by omega)]
      rw [k1] at cnt
      refine ⟨rfl, cnt, k4, fun _ => rfl, fun z => by omega, ?_, fun z => by omega⟩
      by_cases z : hw = 0 ∨ hw = 1 ∧ c = 2
      · rw [if_pos z]
        exact k7
      · rw [if_neg z]
        exact qg_D_N k7 hN (fun y => hl ⟨y.1, z⟩)
    · exact qx_g1_co (qx_g1_mono (g4 k hk) (Nat.le_succ t)) (i81 k hkg) (i33 k hkg) (by dsimp only; exact w5 _ k) (by dsimp only; exact w0 _ k) (w4 _ k hkg) (w1 _ k hkg) rfl (w2 _ k hkg)
end
