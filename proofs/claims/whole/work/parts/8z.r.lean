/-! a run of both, whole -/
section
variable {w : qcW} {C S : qcM} {q ob : Nat}
/-- what both know of the latest run -/
def qx_L (n : Int32) (C S : qcM) : Prop := qi_lat n (C.1 280) (S.1 291) (S.2.1 291 70) (C.2.2.2 280 12) (C.1 281) (S.1 333) (C.2.2.1 282) (S.2.2.1 334) (C.2.1 283) (S.2.1 335) (C.2.1 284) (S.2.1 336) (C.2.2.1 285) (S.2.2.1 337) (S.1 321)
/-- how both stand at the end -/
def qx_RE (q : Nat) (C S Ce Se : qcM) : Prop :=
  qx_cols Ce Se ∧ qx_N Se ∧ (∀ n : Int32, nI q < n → qx_L n Ce Se) ∧
  ((∀ a k, a ≠ 257 → a ≠ 280 → a ≠ 281 → a ≠ 286 → a ≠ 287 → Ce.1 a k = C.1 a k) ∧ (∀ a, a ≠ 280 → a ≠ 286 → Ce.2.2.2 a = C.2.2.2 a) ∧ (∀ a, a ≠ 289 → a ≠ 262 → a ≠ 264 → a ≠ 282 → a ≠ 285 → Ce.2.2.1 a = C.2.2.1 a)) ∧
  (∀ a k, ¬ (a = 291 ∧ 67 ≤ k) → a ≠ 330 → a ≠ 333 → Se.1 a k = S.1 a k) ∧ (∀ a, a ≠ 329 → a ≠ 332 → a ≠ 296 → a ≠ 334 → a ≠ 337 → Se.2.2.1 a = S.2.2.1 a) ∧ Se.2.2.2 = S.2.2.2
/-- from the ends of the objects to the end -/
theorem qx_run_end {s : Nat} {Cb Sb : qcM} {P : Nat → qcM → qcM → Prop} (hq : q < 12) (hob : ob ≤ 16) (hs : s = 0 ∨ s = 1) (hB0 : qx_B0 w q ob s C S Cb Sb) (hcols : qx_cols C S) (hS : ∀ a, 291 ≤ a → S.1 a = C.1 a ∧ S.2.1 a = C.2.1 a ∧ S.2.2.1 a = C.2.2.1 a)
    (hF : s = 1 → ∃ c : Nat, C.1 (C.2.2.2 290 q) 6 = nI c ∧ C.1 322 q = nI c ∧ 1 ≤ c ∧ c ≤ 4 ∧ qq_how (C.2.2.2 (C.2.2.2 290 q) 5) (C.1 321 q) ∧ (C.1 321 q = 4 → c = 4))
    (hO : qx_O w (C.2.1 261) (C.2.2.1 262) (S.2.1 295) (S.2.2.1 296) (qx_rc C.1 (C.1 (C.2.2.2 290 q) 7)) q ob (C.1 318 q) P Cb Sb (fX4_go w C.1 C.2.1 C.2.2.1 C.2.2.2 (C.2.2.2 290 q) (nI q) (nI ob)) (fX12_run w S.1 S.2.1 S.2.2.1 S.2.2.2 (nI q)))
    (hgood : ∀ (C1 S1 : qcM) (k139 : qTI × qTL × qTD × qTR × Int32 × Int32 → qcO Int32), qx_K C.1 C.2.2.1 C.2.2.2 q (C.2.2.2 (C.2.2.2 290 q) 5) (C.1 (C.2.2.2 290 q) 6) C1 S1 → S1.1 291 0 ≤ S1.1 291 71 → S1.1 291 72 = nI q → C1.1 280 0 = nI q ∧ C1.1 280 1 = 0 ∧ C1.1 280 2 = -1 ∧ C1.1 280 3 = -1 ∧ C1.1 280 6 = nI s ∧ S1.1 291 77 = nI q ∧ S1.1 291 79 = -1 ∧ S1.1 291 80 = -1 ∧ S1.1 291 82 = nI s ∧ S1.1 291 88 = C.1 322 q → P ob C1 S1 → C1.1 280 4 = (S1.2.1 291 70).toInt32 →
      ∃ (r : Int32) (f : Nat → Int32) (d : Nat → UInt64) (x : Int32), (qc_gd (qc_io w (C1.2.2.2 286 3) 6) <| qc_bd (fX3_keepFirst w C1.1 C1.2.1 C1.2.2.1 C1.2.2.2 (C1.1 (C1.2.2.2 286 3) 9)) fun r3 I3 L3 D3 R3 => some ((I3 280 5), I3, L3, D3, R3)) = some (r, qc_u C1.1 280 5 x, C1.2.1, C1.2.2.1, C1.2.2.2) ∧ fX12_run_b139 w k139 S1.1 S1.2.1 S1.2.2.1 S1.2.2.2 (nI q) (C.1 318 q) = some (r, qc_u (qi_rr (qc_u S1.1 291 78 0) 333 f) 291 81 x, S1.2.1, qi_rr S1.2.2.1 334 d, S1.2.2.2) ∧ ∀ n : Int32, nI q < n → qx_L n (qc_u C1.1 280 5 x, C1.2.1, C1.2.2.1, C1.2.2.2) (qc_u (qi_rr (qc_u S1.1 291 78 0) 333 f) 291 81 x, S1.2.1, qi_rr S1.2.2.1 334 d, S1.2.2.2)) :
    ∃ (r : Int32) (Ce Se : qcM), fX4_go w C.1 C.2.1 C.2.2.1 C.2.2.2 (C.2.2.2 290 q) (nI q) (nI ob) = some (r, Ce) ∧ fX12_run w S.1 S.2.1 S.2.2.1 S.2.2.2 (nI q) = some (r, Se) ∧ qx_RE q C S Ce Se := by
  obtain ⟨-, hK, -, h69, -, -, h71, h0, ⟨l0, l1, l2, l3, l6, m77, m79, m80, m82, m88⟩, -, ⟨k7, krc, kk⟩, ⟨fI, fR, fD⟩, gI, gD, gR⟩ := hB0
  obtain ⟨C1, S1, m, t, k139, zc, zs, hN1, hW1, hac, ht, hto, hc⟩ := hO
  have hK1 := qx_K_z hK zc zs
  have cI : ∀ a k, a ≠ 257 → a ≠ 280 → a ≠ 281 → a ≠ 286 → a ≠ 287 → C1.1 a k = C.1 a k := fun a k x1 x2 x3 x4 x5 => (zc.1 a k (by omega) (by omega) (by omega) (by omega)).trans (by rw [fI a x1 x2 x3])
  have cR : ∀ a, a ≠ 280 → a ≠ 286 → C1.2.2.2 a = C.2.2.2 a := fun a x1 x2 => by rw [zc.2.2.2, fR a x1 x2]
  have cD : ∀ a, a ≠ 289 → a ≠ 262 → a ≠ 264 → a ≠ 282 → a ≠ 285 → C1.2.2.1 a = C.2.2.1 a := fun a x1 x2 x3 x4 x5 => (zc.2.2.1 a x1 x2 x4 x5).trans (fD a x3 x5)
  have sI : ∀ a k, ¬ (a = 291 ∧ 67 ≤ k) → a ≠ 330 → a ≠ 333 → S1.1 a k = S.1 a k := fun a k x1 x2 x3 => (zs.1 a k (by omega) x2 x3).trans (gI a k (by omega) x3)
  have sD : ∀ a, a ≠ 329 → a ≠ 332 → a ≠ 296 → a ≠ 334 → a ≠ 337 → S1.2.2.1 a = S.2.2.1 a := fun a x1 x2 x3 x4 x5 => (zs.2.2.1 a x1 x2 x3 x4 x5).trans (gD a x5)
  have sR : S1.2.2.2 = S.2.2.2 := zs.2.2.2.trans gR
  have q0 : C1.1 280 0 = nI q := (zc.1 280 0 (by omega) (by omega) (by omega) (by omega)).trans l0
  have q6 : C1.1 280 6 = nI s := (zc.1 280 6 (by omega) (by omega) (by omega) (by omega)).trans l6
  have q13 : C1.1 280 13 = C.1 (C.2.2.2 290 q) 6 := hK1.2.2.2.2.2.2.2
  have qh : C1.2.2.2 280 12 = C.2.2.2 (C.2.2.2 290 q) 5 := hK1.2.2.2.2.2.2.1
  have n77 : S1.1 291 77 = nI q := (zs.1 291 77 (by omega) (by omega) (by omega)).trans m77
  have n82 : S1.1 291 82 = nI s := (zs.1 291 82 (by omega) (by omega) (by omega)).trans m82
  have n88 : S1.1 291 88 = C.1 322 q := (zs.1 291 88 (by omega) (by omega) (by omega)).trans m88
  have n00 : S1.1 291 0 = nI ob := (zs.1 291 0 (by omega) (by omega) (by omega)).trans h0
  have n321 : S1.1 321 q = C.1 321 q := by rw [hK1.2.2.1 321 (by decide) (by decide)]
  rcases hc with ⟨z1, z2, ⟨z3, z4, z5⟩, ⟨z6, z7⟩, z8, z9, z10⟩ | ⟨z1, ⟨z2, z3, z4, z5⟩, z6, z7⟩
  · subst z1
    obtain ⟨r, f, d, x, e1, e2, e3⟩ := hgood C1 S1 k139 hK1 (by rw [n00, ht]; exact Int32.le_refl _) hK1.2.2.2.1 ⟨q0, z3.trans l1, z4.trans l2, z5.trans l3, q6, n77, z6.trans m79, z7.trans m80, n82, n88⟩ z8 hac
    have u0 : ∀ a, a ≠ 280 → qc_u C1.1 280 5 x a = C1.1 a := fun a h => qc_u_off _ _ h
    have v0 : ∀ a k, ¬ (a = 291 ∧ 67 ≤ k) → a ≠ 333 → qc_u (qi_rr (qc_u S1.1 291 78 0) 333 f) 291 81 x a k = S1.1 a k := fun a k h1 h2 => by
      rw [qc_u_ne _ _ (by omega), qi_rr_off _ _ h2, qc_u_ne _ _ (by omega)]
    have v1 : ∀ a, a ≠ 291 → a ≠ 333 → qc_u (qi_rr (qc_u S1.1 291 78 0) 333 f) 291 81 x a = S1.1 a := fun a h1 h2 => funext fun k => v0 a k (by omega) h2
    have w0 : ∀ a, a ≠ 334 → qi_rr S1.2.2.1 334 d a = S1.2.2.1 a := fun a h => qi_rr_off _ _ h
    refine ⟨r, _, _, z9.trans e1, z10.trans e2, ?_, fun k hk => ?_, e3, ⟨fun a k x1 x2 x3 x4 x5 => ?_, cR, cD⟩, fun a k x1 x2 x3 => (v0 a k x1 x3).trans (sI a k x1 x2 x3), fun a x1 x2 x3 x4 x5 => (w0 a x4).trans (sD a x1 x2 x3 x4 x5), sR⟩
    · have := hW1.1
      unfold qx_cols at this ⊢
      dsimp only
      rw [u0 258 (by decide), u0 259 (by decide), u0 260 (by decide), v1 292 (by decide) (by decide), v1 293 (by decide) (by decide), v1 294 (by decide) (by decide), w0 296 (by decide)]
      exact this
    · dsimp only
      rw [w0 329 (by decide)]
      exact hN1 k hk
    · dsimp only
      rw [u0 a x2]
      exact cI a k x1 x2 x3 x4 x5
  · obtain ⟨L', D', e1, e2, e3, e4, e5, e6⟩ := qx_endX (w := w) (q := q) (x2 := C.1 318 q) (k139 := k139) hW1 ((zc.1 257 7 (by omega) (by omega) (by omega) (by omega)).trans k7) krc (fun i t y1 y2 y3 => by
      rw [zc.2.1 263 (by decide) (by decide) (by decide) (by decide), zc.2.2.1 264 (by decide) (by decide) (by decide) (by decide)]
      exact kk i t y1 y2 y3) z1 ht
    have v0 : ∀ a k, ¬ (a = 291 ∧ (k = 78 ∨ k = 81)) → qc_u (qc_u S1.1 291 78 (S1.1 291 69)) 291 81 0 a k = S1.1 a k := fun a k h1 => by
      rw [qc_u_ne _ _ (by omega), qc_u_ne _ _ (by omega)]
    have v1 : ∀ a, a ≠ 291 → qc_u (qc_u S1.1 291 78 (S1.1 291 69)) 291 81 0 a = S1.1 a := fun a h1 => funext fun k => v0 a k (by omega)
    have w0 : ∀ a, a ≠ 296 → qi_rr S1.2.2.1 296 (S.2.2.1 296) a = S1.2.2.1 a := fun a h => qi_rr_off _ _ h
    have w1 : ∀ a, a ≠ 295 → qi_rr S1.2.1 295 (S.2.1 295) a = S1.2.1 a := fun a h => qi_rr_off _ _ h
    refine ⟨_, _, _, z6.trans e1, z7.trans e6, ?_, fun k hk => ?_, fun n hn => ?_, ⟨cI, cR, fun a x1 x2 x3 x4 x5 => (e5 a x2).trans (cD a x1 x2 x3 x4 x5)⟩, fun a k x1 x2 x3 => (v0 a k (by omega)).trans (sI a k x1 x2 x3), fun a x1 x2 x3 x4 x5 => (w0 a x3).trans (sD a x1 x2 x3 x4 x5), sR⟩
    · unfold qx_cols at hcols ⊢
      dsimp only
      rw [e2, e3, qi_rr_on, qi_rr_on, v1 292 (by decide), v1 293 (by decide), v1 294 (by decide), show C1.1 258 = C.1 258 from funext fun k => cI 258 k (by decide) (by decide) (by decide) (by decide) (by decide), show C1.1 259 = C.1 259 from funext fun k => cI 259 k (by decide) (by decide) (by decide) (by decide) (by decide), show C1.1 260 = C.1 260 from funext fun k => cI 260 k (by decide) (by decide) (by decide) (by decide) (by decide), show S1.1 292 = S.1 292 from funext fun k => sI 292 k (by omega) (by decide) (by decide), show S1.1 293 = S.1 293 from funext fun k => sI 293 k (by omega) (by decide) (by decide), show S1.1 294 = S.1 294 from funext fun k => sI 294 k (by omega) (by decide) (by decide)]
      exact hcols
    · dsimp only
      rw [w0 329 (by decide)]
      exact hN1 k hk
    · unfold qx_L
      dsimp only
      refine ⟨q0.trans (n77.symm.trans (v0 291 77 (by omega)).symm), z2.trans (by rw [qc_u_ne _ _ (Or.inr (by decide)), qc_u_at]), z3.trans (v0 291 79 (by omega)).symm, z4.trans (v0 291 80 (by omega)).symm, by rw [w1 291 (by decide)]; exact hac, z5.trans (qc_u_at _ 291 81 _).symm, (q6.trans n82.symm).trans (v0 291 82 (by omega)).symm, 0, z5, by decide, fun k hk => by omega, ?_⟩
      rcases hs with hs | hs
      · exact Or.inl ⟨by rw [q6, hs]; rfl, fun k hk => by omega⟩
      · obtain ⟨c, y1, y2, y3, y4, y5, y6⟩ := hF hs
        refine Or.inr ⟨by rw [q6, hs]; rfl, by decide, fun k hk => by omega, q, c, (v0 291 77 (by omega)).trans n77, hq, hn, q13.trans y1, (v0 291 88 (by omega)).trans (n88.trans y2), y3, y4, ?_, ?_, fun k hk => by omega⟩
        · rw [qh, v1 321 (by decide), n321]
          exact y5
        · rw [v1 321 (by decide), n321]
          exact y6
end
section
variable {w : qcW} {C S : qcM} {q ob : Nat}
theorem qx_N0 : qf_N 0 := (qf_n64 0).mp (by decide)
theorem qx_isF0 : qf_isF 0 := ⟨0, by decide, by decide⟩
theorem qx_rr_u {α : Type} {f g : Nat → Nat → α} {a : Nat} (h : f a = g a) : qi_rr f a (g a) = f := by rw [← h, qi_rr_0]
theorem qx_G_4 {c t h : Nat} {C S : qcM} (hG : qx_G c t h C S) (v u : Int32) : qx_G c t h (qc_u C.1 286 4 v, C.2.1, C.2.2.1, C.2.2.2) S ∧ qx_G c t h C (qc_u S.1 291 71 u, S.2.1, S.2.2.1, S.2.2.2) := by
  have n1 : ∀ k, qc_u C.1 286 4 v 281 k = C.1 281 k := fun k => qc_u_ne _ _ (Or.inl (by decide))
  have n2 : qc_u C.1 286 4 v 280 5 = C.1 280 5 := qc_u_ne _ _ (Or.inl (by decide))
  have n3 : ∀ k, qc_u S.1 291 71 u 333 k = S.1 333 k := fun k => qc_u_ne _ _ (Or.inl (by decide))
  have n4 : qc_u S.1 291 71 u 291 81 = S.1 291 81 := qc_u_ne _ _ (Or.inr (by decide))
  exact ⟨qx_G_co hG n1 (fun _ => rfl) (fun _ => rfl) (fun _ => rfl) (fun _ => rfl) (fun _ => rfl) (fun _ => rfl) (fun _ => rfl) n2 rfl, qx_G_co hG (fun _ => rfl) n3 (fun _ => rfl) (fun _ => rfl) (fun _ => rfl) (fun _ => rfl) (fun _ => rfl) (fun _ => rfl) rfl n4⟩
theorem qx_Hh_4 {x : Int32} {t h : Nat} {C S : qcM} (hH : qx_Hh x t h C S) (v u : Int32) : qx_Hh x t h (qc_u C.1 286 4 v, C.2.1, C.2.2.1, C.2.2.2) S ∧ qx_Hh x t h C (qc_u S.1 291 71 u, S.2.1, S.2.2.1, S.2.2.2) := by
  have n1 : qc_u C.1 286 4 v 281 = C.1 281 := qc_u_off _ _ (by decide)
  have n2 : qc_u C.1 286 4 v 280 5 = C.1 280 5 := qc_u_ne _ _ (Or.inl (by decide))
  have n3 : qc_u S.1 291 71 u 333 = S.1 333 := qc_u_off _ _ (by decide)
  have n4 : qc_u S.1 291 71 u 291 81 = S.1 291 81 := qc_u_ne _ _ (Or.inr (by decide))
  exact ⟨qx_Hh_co hH n1 rfl n2 rfl rfl rfl, qx_Hh_co hH rfl rfl rfl n3 rfl n4⟩
/-- a fold -/
theorem qx_runF (hq : q < 12) (hob : ob ≤ 16) (hB : qq_B w C.1 C.2.2.1 C.2.2.2 q) (h318 : C.1 318 q = 1) (hS : ∀ a, 291 ≤ a → S.1 a = C.1 a ∧ S.2.1 a = C.2.1 a ∧ S.2.2.1 a = C.2.2.1 a) (hcols : qx_cols C S) {Cb Sb : qcM} (hB0 : qx_B0 w q ob 1 C S Cb Sb) :
    ∃ (r : Int32) (Ce Se : qcM), fX4_go w C.1 C.2.1 C.2.2.1 C.2.2.2 (C.2.2.2 290 q) (nI q) (nI ob) = some (r, Ce) ∧ fX12_run w S.1 S.2.1 S.2.2.1 S.2.2.2 (nI q) = some (r, Se) ∧ qx_RE q C S Ce Se := by
  obtain ⟨n0, n1, n2, nr, b2, ⟨a1, a2, a3, a4⟩, a5, ⟨a6, -⟩, -, -, -, -, d⟩ := qx_cds hB
  rcases d with ⟨z, _⟩ | ⟨-, f1, f2, f3, f4, f5, c, g1, g2, g3, g4, g5, g6, g7⟩ | ⟨z, _⟩
  · exact absurd (z.symm.trans h318) (by decide)
  · obtain ⟨⟨e1, e2⟩, hK, hN, h69, hW, hac, h71, h0, -, ⟨h, i1, i2, i3, i4, i5⟩, -⟩ := id hB0
    refine qx_run_end (P := fun t C S => ∃ h, qx_G c t h C S) hq hob (Or.inr rfl) hB0 hcols hS (fun _ => ⟨c, f4.trans g1, g1, g2, g3, f5, g6⟩) ?_ ?_
    · rw [e1, e2, h318]
      have hv := qx_visF (w := w) (L0 := C.2.1 261) (D0 := C.2.2.1 262) (L1 := S.2.1 295) (D1 := S.2.2.1 296) (rc := qx_rc C.1 (C.1 (C.2.2.2 290 q) 7)) (ob := ob) hB hq hob h318 (f4.trans g1) g3 g1 rfl f5
      refine qx_objs (K := qx_K C.1 C.2.2.1 C.2.2.2 q (C.2.2.2 (C.2.2.2 290 q) 5) (C.1 (C.2.2.2 290 q) 6)) (P := fun t C S => ∃ h, qx_G c t h C S) hob (fun C S C' S' k zc zs => qx_K_z k zc zs) (fun t C S v u hp => ?_) hv qcF 0 0 Cb Sb (by unfold qcF; omega) (Nat.zero_le _) hK hN h69 hW (Nat.le_refl _) hac h71 h0 ⟨h, i1, i2, by omega, fun k hk => ?_⟩
      · obtain ⟨h, hG⟩ := hp
        exact ⟨⟨h, (qx_G_4 hG v u).1⟩, ⟨h, (qx_G_4 hG v u).2⟩⟩
      · have k0 : k = 0 := by omega
        subst k0
        obtain ⟨⟨j1, j2, j3, j4⟩, j5, j6, j7, j8⟩ := i5 (by omega)
        unfold qx_g1
        rw [j1, j2, j3, j4, j5, j6, j7, j8]
        exact ⟨rfl, ⟨0, Nat.le_refl _, rfl⟩, rfl, fun _ => rfl, fun _ => ⟨rfl, fun _ => rfl⟩, qx_N0, fun _ => qx_isF0⟩
    · intro C1 S1 k139 hK1 hle h72 hl hP h4
      obtain ⟨h, hG⟩ := hP
      obtain ⟨k1, k2, k3, k4, k5, k6, k7, k8⟩ := id hK1
      obtain ⟨G1, G2, G3, G4⟩ := hG
      obtain ⟨j1, j2⟩ := qx_end1 (w := w) (q := q) (k139 := k139) (x2 := C.1 318 q) (by rw [h318]; decide) G1 G2 (by omega) hle (by rw [k1]; exact a6) (by rw [k1, (k2 _ a5).2.1]; exact f2)
      obtain ⟨l0, l1, l2, l3, l6, m77, m79, m80, m82, m88⟩ := hl
      refine ⟨nI h, S1.1 333, S1.2.2.1 334, nI h, ?_, ?_, fun n hn => ?_⟩
      · rw [j1, qx_self G1]
      · rw [j2, qi_rr_0, show qi_rr (qc_u S1.1 291 78 0) 333 (S1.1 333) = qc_u S1.1 291 78 0 from qx_rr_u (qc_u_off _ _ (by decide)), qx_self (f := qc_u S1.1 291 78 0) ((qc_u_ne _ _ (Or.inr (by decide))).trans G2)]
      · rw [qx_self G1, qi_rr_0, show qi_rr (qc_u S1.1 291 78 0) 333 (S1.1 333) = qc_u S1.1 291 78 0 from qx_rr_u (qc_u_off _ _ (by decide)), qx_self (f := qc_u S1.1 291 78 0) ((qc_u_ne _ _ (Or.inr (by decide))).trans G2)]
        have v0 : ∀ k, k ≠ 78 → qc_u S1.1 291 78 0 291 k = S1.1 291 k := fun k hk => qc_u_ne _ _ (Or.inr hk)
        have v1 : ∀ a, a ≠ 291 → qc_u S1.1 291 78 0 a = S1.1 a := fun a ha => qc_u_off _ _ ha
        unfold qx_L
        dsimp only
        rw [v1 333 (by decide), v1 321 (by decide)]
        refine ⟨by rw [l0, v0 77 (by decide), m77], by rw [l1, qc_u_at], by rw [l2, v0 79 (by decide), m79], by rw [l3, v0 80 (by decide), m80], h4, by rw [G1, v0 81 (by decide), G2], by rw [l6, v0 82 (by decide), m82], h, G1, by omega, fun k hk => ?_, Or.inr ⟨l6, G3, fun k hk => (G4 k hk).2.2.1, q, c, (v0 77 (by decide)).trans m77, hq, hn, k8.trans (f4.trans g1), (v0 88 (by decide)).trans (m88.trans g1), g2, g3, ?_, ?_, fun k hk => ?_⟩⟩
        · obtain ⟨y1, ⟨v, y2, y3⟩, -⟩ := G4 k hk
          exact ⟨y1, by rw [y3]; exact qi_inbN (by omega) (by decide)⟩
        · rw [k7, k3 321 (by decide) (by decide)]
          exact f5
        · rw [k3 321 (by decide) (by decide)]
          exact g6
        · obtain ⟨y1, -, y4, y5, y6, y7, y8⟩ := G4 k hk
          refine ⟨y5, fun x => ⟨(y6 x).1, ?_, (y6 x).2⟩, fun x => by rw [(y6 (by omega)).1]; exact y8 x⟩
          rw [(y6 x).1]
          exact (qf_n64 _).mpr y7
  · exact absurd (z.symm.trans h318) (by decide)
end
section
variable {w : qcW} {C S : qcM} {q ob : Nat}
/-- hits -/
theorem qx_runH (hq : q < 12) (hob : ob ≤ 16) (hB : qq_B w C.1 C.2.2.1 C.2.2.2 q) (h318 : C.1 318 q = 0 ∨ C.1 318 q = 2) (hS : ∀ a, 291 ≤ a → S.1 a = C.1 a ∧ S.2.1 a = C.2.1 a ∧ S.2.2.1 a = C.2.2.1 a) (hcols : qx_cols C S) {Cb Sb : qcM} (hB0 : qx_B0 w q ob 0 C S Cb Sb) :
    ∃ (r : Int32) (Ce Se : qcM), fX4_go w C.1 C.2.1 C.2.2.1 C.2.2.2 (C.2.2.2 290 q) (nI q) (nI ob) = some (r, Ce) ∧ fX12_run w S.1 S.2.1 S.2.2.1 S.2.2.2 (nI q) = some (r, Se) ∧ qx_RE q C S Ce Se := by
  obtain ⟨n0, n1, n2, nr, b2, ⟨a1, a2, a3, a4⟩, a5, ⟨a6, -⟩, -, -, -, -, d⟩ := qx_cds hB
  obtain ⟨⟨e1, e2⟩, hK, hN, h69, hW, hac, h71, h0, -, ⟨h, i1, i2, i3, i4, i5⟩, -⟩ := id hB0
  have h00 := i4 rfl
  subst h00
  obtain ⟨md, hmd, hm3⟩ : ∃ md : Nat, (md = 0 ∨ md = 2) ∧ C.1 318 q = nI md := by
    rcases h318 with z | z
    · exact ⟨0, Or.inl rfl, z⟩
    · exact ⟨2, Or.inr rfl, z⟩
  refine qx_run_end (P := fun t C' S' => ∃ h, qx_Hh (C.1 (C.2.2.2 290 q) 8) t h C' S') hq hob (Or.inl rfl) hB0 hcols hS (fun z => absurd z (by decide)) ?_ ?_
  · rw [e1, e2, hm3]
    have hv := qx_visH (w := w) (hr := C.2.2.2 (C.2.2.2 290 q) 5) (kd := C.1 (C.2.2.2 290 q) 6) (L0 := C.2.1 261) (D0 := C.2.2.1 262) (L1 := S.2.1 295) (D1 := S.2.2.1 296) (rc := qx_rc C.1 (C.1 (C.2.2.2 290 q) 7)) (ob := ob) hB hq hob hmd hm3 rfl (fun c y1 y2 => by
      unfold qx_rc
      rw [y2, if_pos (qi_inbN y1 (by decide)), nI_clamp (by omega)])
    refine qx_objs (K := qx_K C.1 C.2.2.1 C.2.2.2 q (C.2.2.2 (C.2.2.2 290 q) 5) (C.1 (C.2.2.2 290 q) 6)) (P := fun t C' S' => ∃ h, qx_Hh (C.1 (C.2.2.2 290 q) 8) t h C' S') hob (fun C S C' S' k zc zs => qx_K_z k zc zs) (fun t C S v u hp => ?_) hv qcF 0 0 Cb Sb (by unfold qcF; omega) (Nat.zero_le _) hK hN h69 hW (Nat.le_refl _) hac h71 h0 ⟨0, i1, i2, Nat.le_refl _, fun k hk => by omega, fun k hk => by omega⟩
    obtain ⟨h, hG⟩ := hp
    exact ⟨⟨h, (qx_Hh_4 hG v u).1⟩, ⟨h, (qx_Hh_4 hG v u).2⟩⟩
  · intro C1 S1 k139 hK1 hle h72 hl hP h4
    obtain ⟨h, hH⟩ := hP
    obtain ⟨k1, k2, k3, k4, k5, k6, k7, k8⟩ := id hK1
    obtain ⟨l0, l1, l2, l3, l6, m77, m79, m80, m82, m88⟩ := hl
    have hio : qc_io w (C1.2.2.2 286 3) 6 = true := by rw [k1]; exact a6
    have key : ∃ (r : Int32) (f : Nat → Int32) (d : Nat → UInt64) (h' : Nat), h' ≤ 16 ∧ (qc_gd (qc_io w (C1.2.2.2 286 3) 6) <| qc_bd (fX3_keepFirst w C1.1 C1.2.1 C1.2.2.1 C1.2.2.2 (C1.1 (C1.2.2.2 286 3) 9)) fun r3 I3 L3 D3 R3 => some ((I3 280 5), I3, L3, D3, R3)) = some (r, qc_u C1.1 280 5 (nI h'), C1.2.1, C1.2.2.1, C1.2.2.2) ∧ fX12_run_b139 w k139 S1.1 S1.2.1 S1.2.2.1 S1.2.2.2 (nI q) (C.1 318 q) = some (r, qc_u (qi_rr (qc_u S1.1 291 78 0) 333 f) 291 81 (nI h'), S1.2.1, qi_rr S1.2.2.1 334 d, S1.2.2.2) ∧ ∀ k, k < h' → C1.1 281 k = f k ∧ qc_inb (f k) 17 = true ∧ C1.2.2.1 282 k = d k ∧ qf_N (d k) := by
      rcases d with ⟨z0, z1, z2, z3, z4, z5⟩ | ⟨z, _⟩ | ⟨z0, z1, z2, z3, z4, z5, -⟩
      · obtain ⟨h', f, d, y1, y2, y3, y4⟩ := qx_end0 (w := w) (k139 := k139) (lim := C.1 (C.2.2.2 290 q) 9) hq hH hob hle h72 hio (by rw [k1, (k2 _ a5).2.1]) (by
          rw [k3 320 (by decide) (by decide)]
          exact z5) (by
          rw [k3 319 (by decide) (by decide)]
          rcases z4 with ⟨-, -, y1, y2⟩ | ⟨-, -, -, ⟨y1, y2⟩ | ⟨y1, y2⟩⟩
          · exact Or.inl ⟨y2, y1⟩
          · exact Or.inr (Or.inl ⟨y2, y1⟩)
          · exact Or.inr (Or.inr ⟨y2, y1⟩))
        exact ⟨nI h', f, d, h', y1, y2, by rw [z0]; exact y3, y4⟩
      · exact absurd z (by rcases h318 with y | y <;> (rw [y]; decide))
      · obtain ⟨j1, j2⟩ := qx_end1 (w := w) (q := q) (k139 := k139) (x2 := C.1 318 q) (by rw [z0]; decide) hH.1 hH.2.1 (by have := hH.2.2.1; omega) hle hio (by rw [k1, (k2 _ a5).2.1]; exact z3)
        obtain ⟨H1, H2, H3, H4, H5⟩ := hH
        refine ⟨nI h, S1.1 333, S1.2.2.1 334, h, by omega, ?_, ?_, fun k hk => ?_⟩
        · rw [j1, qx_self H1]
        · rw [j2, qi_rr_0, show qi_rr (qc_u S1.1 291 78 0) 333 (S1.1 333) = qc_u S1.1 291 78 0 from qx_rr_u (qc_u_off _ _ (by decide)), qx_self (f := qc_u S1.1 291 78 0) ((qc_u_ne _ _ (Or.inr (by decide))).trans H2)]
        · obtain ⟨y1, y2⟩ := H4 k hk
          obtain ⟨y3, y4⟩ := H5 k hk
          rw [z5, show qy_all (qy_st 0) h (S1.1 333) (S1.2.2.1 334) = (S1.1 333, S1.2.2.1 334) from qy_all_id _ _ h] at y1 y2
          exact ⟨y1, y3, y2, y4⟩
    obtain ⟨r, f, d, h', y1, y2, y3, y4⟩ := key
    refine ⟨r, f, d, nI h', y2, y3, fun n hn => ?_⟩
    have v0 : ∀ k, k ≠ 78 → k ≠ 81 → qc_u (qi_rr (qc_u S1.1 291 78 0) 333 f) 291 81 (nI h') 291 k = S1.1 291 k := fun k hk hk2 => by rw [qc_u_ne _ _ (Or.inr hk2), qi_rr_off _ _ (by decide), qc_u_ne _ _ (Or.inr hk)]
    have v1 : ∀ k, k ≠ 5 → qc_u C1.1 280 5 (nI h') 280 k = C1.1 280 k := fun k hk => qc_u_ne _ _ (Or.inr hk)
    have v2 : qc_u C1.1 280 5 (nI h') 281 = C1.1 281 := qc_u_off _ _ (by decide)
    have v3 : qc_u (qi_rr (qc_u S1.1 291 78 0) 333 f) 291 81 (nI h') 333 = f := by rw [qc_u_off _ _ (by decide), qi_rr_on]
    have v4 : qc_u (qi_rr (qc_u S1.1 291 78 0) 333 f) 291 81 (nI h') 291 78 = 0 := by rw [qc_u_ne _ _ (Or.inr (by decide)), qi_rr_off _ _ (by decide), qc_u_at]
    unfold qx_L
    dsimp only
    rw [v2, v3, qi_rr_on]
    refine ⟨by rw [v1 0 (by decide), v0 77 (by decide) (by decide), l0, m77], by rw [v1 1 (by decide), v4, l1], by rw [v1 2 (by decide), v0 79 (by decide) (by decide), l2, m79], by rw [v1 3 (by decide), v0 80 (by decide) (by decide), l3, m80], by rw [v1 4 (by decide)]; exact h4, by rw [qc_u_at, qc_u_at], by rw [v1 6 (by decide), v0 82 (by decide) (by decide), l6, m82], h', by rw [qc_u_at], y1, fun k hk => ?_, Or.inl ⟨by rw [v1 6 (by decide)]; exact l6, fun k hk => ?_⟩⟩
    · obtain ⟨x1, x2, -⟩ := y4 k hk
      exact ⟨x1, by rw [x1]; exact x2⟩
    · obtain ⟨-, -, x3, x4⟩ := y4 k hk
      exact ⟨x3, by rw [x3]; exact (qf_n64 _).mpr x4⟩
theorem qx_run (hq : q < 12) (hob : ob ≤ 16) (hB : qq_B w C.1 C.2.2.1 C.2.2.2 q) (hS : ∀ a, 291 ≤ a → S.1 a = C.1 a ∧ S.2.1 a = C.2.1 a ∧ S.2.2.1 a = C.2.2.1 a) (hcols : qx_cols C S) (hN : qx_N S) (h0 : S.1 291 0 = nI ob) (hMQ : fX12_isQuery w S.1 S.2.1 S.2.2.1 S.2.2.2 (nI q) = some (true, S)) :
    ∃ (r : Int32) (Ce Se : qcM), fX4_go w C.1 C.2.1 C.2.2.1 C.2.2.2 (C.2.2.2 290 q) (nI q) (nI ob) = some (r, Ce) ∧ fX12_run w S.1 S.2.1 S.2.2.1 S.2.2.2 (nI q) = some (r, Se) ∧ qx_RE q C S Ce Se := by
  obtain ⟨s, Cb, Sb, hs, hB0⟩ := qx_begins hq hB hS hcols hN h0 hMQ
  rcases hs with ⟨rfl, hs⟩ | ⟨rfl, hs⟩
  · exact qx_runF hq hob hB hs hS hcols hB0
  · exact qx_runH hq hob hB hs hS hcols hB0
end
