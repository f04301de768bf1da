/-! both at the start of their objects -/
section
variable {w : qcW} {C S : qcM} {q ob : Nat}
/-- how both stand ahead of the first object -/
def qx_B0 (w : qcW) (q ob s : Nat) (C S Cb Sb : qcM) : Prop :=
  (fX4_go w C.1 C.2.1 C.2.2.1 C.2.2.2 (C.2.2.2 290 q) (nI q) (nI ob) = fX4_go_l34 w qcF (Cb.1, Cb.2.1, Cb.2.2.1, Cb.2.2.2, nI ob, nI 0) ∧ fX12_run w S.1 S.2.1 S.2.2.1 S.2.2.2 (nI q) = fX12_run_l139 w qcF (Sb.1, Sb.2.1, Sb.2.2.1, Sb.2.2.2, nI q, C.1 318 q)) ∧
  qx_K C.1 C.2.2.1 C.2.2.2 q (C.2.2.2 (C.2.2.2 290 q) 5) (C.1 (C.2.2.2 290 q) 6) Cb Sb ∧ qx_N Sb ∧ Sb.1 291 69 = 0 ∧ qx_W (C.2.1 261) (C.2.2.1 262) (S.2.1 295) (S.2.2.1 296) (qx_rc C.1 (C.1 (C.2.2.2 290 q) 7)) 0 Cb Sb ∧ Cb.1 280 4 = (Sb.2.1 291 70).toInt32 ∧ Sb.1 291 71 = nI 0 ∧ Sb.1 291 0 = nI ob ∧
  (Cb.1 280 0 = nI q ∧ Cb.1 280 1 = 0 ∧ Cb.1 280 2 = -1 ∧ Cb.1 280 3 = -1 ∧ Cb.1 280 6 = nI s ∧ Sb.1 291 77 = nI q ∧ Sb.1 291 79 = -1 ∧ Sb.1 291 80 = -1 ∧ Sb.1 291 82 = nI s ∧ Sb.1 291 88 = C.1 322 q) ∧
  (∃ h, Cb.1 280 5 = nI h ∧ Sb.1 291 81 = nI h ∧ h ≤ 1 ∧ (s = 0 → h = 0) ∧ (h = 1 → (Cb.1 281 0 = 0 ∧ Cb.2.1 283 0 = 0 ∧ Cb.2.1 284 0 = 0 ∧ Cb.2.2.1 285 0 = 0) ∧ Sb.1 333 0 = 0 ∧ Sb.2.1 335 0 = 0 ∧ Sb.2.1 336 0 = 0 ∧ Sb.2.2.1 337 0 = 0)) ∧
  (Cb.1 257 7 = qx_rc C.1 (C.1 (C.2.2.2 290 q) 7) ∧ (qx_rc C.1 (C.1 (C.2.2.2 290 q) 7) = -1 ∨ ∃ i, i < 10 ∧ qx_rc C.1 (C.1 (C.2.2.2 290 q) 7) = nI i) ∧ ∀ i t : Nat, qx_rc C.1 (C.1 (C.2.2.2 290 q) 7) = nI i → i < 10 → t < 16 → Cb.2.1 263 t = C.2.1 261 (i * 16 + t) ∧ Cb.2.2.1 264 t = C.2.2.1 262 (i * 16 + t)) ∧
  ((∀ a, a ≠ 257 → a ≠ 280 → a ≠ 281 → Cb.1 a = C.1 a) ∧ (∀ a, a ≠ 280 → a ≠ 286 → Cb.2.2.2 a = C.2.2.2 a) ∧ (∀ a, a ≠ 264 → a ≠ 285 → Cb.2.2.1 a = C.2.2.1 a)) ∧
  (∀ a k, ¬ (a = 291 ∧ (k = 69 ∨ k = 71 ∨ k = 72 ∨ k = 73 ∨ k = 77 ∨ k = 79 ∨ k = 80 ∨ k = 81 ∨ k = 82 ∨ k = 88)) → a ≠ 333 → Sb.1 a k = S.1 a k) ∧ (∀ a, a ≠ 337 → Sb.2.2.1 a = S.2.2.1 a) ∧ Sb.2.2.2 = S.2.2.2
theorem qx_begins (hq : q < 12) (hB : qq_B w C.1 C.2.2.1 C.2.2.2 q) (hS : ∀ a, 291 ≤ a → S.1 a = C.1 a ∧ S.2.1 a = C.2.1 a ∧ S.2.2.1 a = C.2.2.1 a) (hcols : qx_cols C S) (hN : qx_N S) (h0 : S.1 291 0 = nI ob) (hMQ : fX12_isQuery w S.1 S.2.1 S.2.2.1 S.2.2.2 (nI q) = some (true, S)) : ∃ s Cb Sb, (s = 1 ∧ C.1 318 q = 1 ∨ s = 0 ∧ (C.1 318 q = 0 ∨ C.1 318 q = 2)) ∧ qx_B0 w q ob s C S Cb Sb := by
  obtain ⟨n0, n1, n2, nr, b2, ⟨a1, a2, a3, a4⟩, a5, ⟨a6, a7, a8, a9, a10, a11, hl5⟩, a12, a13, a14, ⟨c1, c2, c3, c4⟩, d⟩ := qx_cds hB
  obtain ⟨s, hs1, hs2⟩ : ∃ s : Nat, (s = 1 ∧ C.1 318 q = 1 ∨ s = 0 ∧ (C.1 318 q = 0 ∨ C.1 318 q = 2)) ∧ (s = 1 ∧ C.2.2.2 (C.2.2.2 290 q) 4 = 9 ∨ s = 0 ∧ (C.2.2.2 (C.2.2.2 290 q) 4 = 5 ∨ C.2.2.2 (C.2.2.2 290 q) 4 = 15)) := by
    rcases d with ⟨z0, z1, _⟩ | ⟨z0, z1, _⟩ | ⟨z0, z1, _⟩
    · exact ⟨0, Or.inr ⟨rfl, Or.inl z0⟩, Or.inr ⟨rfl, Or.inl z1⟩⟩
    · exact ⟨1, Or.inl ⟨rfl, z0⟩, Or.inl ⟨rfl, z1⟩⟩
    · exact ⟨0, Or.inr ⟨rfl, Or.inr z0⟩, Or.inr ⟨rfl, Or.inr z1⟩⟩
  have r1 : ∀ a, a ≠ 286 → qc_u C.2.2.2 286 3 (C.2.2.2 290 q) a = C.2.2.2 a := fun a h => qc_u_off _ _ h
  have rX : qc_u C.2.2.2 286 3 (C.2.2.2 290 q) (C.2.2.2 290 q) = C.2.2.2 (C.2.2.2 290 q) := r1 _ (by omega)
  obtain ⟨C1, b1, ⟨b2a, b2b, b2c, b2d, b2e, b2f, b2g, b2h⟩, b3, b4, b5, b6, b7⟩ := cx_begin (w := w) (I := C.1) (L := C.2.1) (D := C.2.2.1) (R := qc_u C.2.2.2 286 3 (C.2.2.2 290 q)) (X := C.2.2.2 290 q) (q := q) (n2 := n2) (b2 := b2) (s := s) a5 a6 (by rw [rX]; exact a7) (by rw [rX]; exact a8) (by rw [rX]; exact a9) (by rw [rX]; exact a10) (by rw [rX]; exact a11) a3 (by rw [rX]; exact hl5) (by rw [rX]; exact hs2)
  rw [rX] at b6
  have R286 : C1.2.2.2 286 3 = C.2.2.2 290 q := by rw [b6, qc_u_ne _ _ (Or.inl (by decide)), qc_u_at]
  have I258 : C1.1 258 = C.1 258 := b3 258 (by decide) (by decide)
  have hrcE : ∀ c, qx_rc C1.1 c = qx_rc C.1 c := fun c => by unfold qx_rc; rw [I258]
  have I7 : C1.1 (C.2.2.2 290 q) 7 = C.1 (C.2.2.2 290 q) 7 := by rw [b3 _ (by omega) (by omega)]
  obtain ⟨hrc, L', D', d1, d2, d3, d4⟩ := cx_keep (w := w) (I := C1.1) (L := C1.2.1) (D := C1.2.2.1) (R := C1.2.2.2) (c := C.1 (C.2.2.2 290 q) 7) (fun k hk => by
    rw [I258]
    rcases hcols.1 k hk with ⟨z, _⟩ | ⟨i, j, z, _, z2, _⟩
    · exact Or.inl z
    · exact Or.inr ⟨i, z2, z⟩)
  rw [hrcE] at hrc d1
  simp only [hrcE] at d4
  obtain ⟨Sb, e1, ⟨f72, f77, f79, f80, f69, f73, f81, f82, f88, f71⟩, e3, e4, e5, e6, e7, e8⟩ := mx_begin (w := w) (I := S.1) (L := S.2.1) (D := S.2.2.1) (R := S.2.2.2) (q := q) (n2 := n2) (s := s) hq hMQ a3 (by rw [(hS 317 (by decide)).1]; exact a12) (by rw [(hS 318 (by decide)).1]; exact hs1)
  rw [(hS 318 (by decide)).1] at e1
  rw [(hS 322 (by decide)).1] at f88
  have u1 : ∀ a, a ≠ 257 → qc_u C1.1 257 7 (qx_rc C.1 (C.1 (C.2.2.2 290 q) 7)) a = C1.1 a := fun a h => qc_u_off _ _ h
  have iA : ∀ a, a ≠ 257 → a ≠ 280 → a ≠ 281 → qc_u C1.1 257 7 (qx_rc C.1 (C.1 (C.2.2.2 290 q) 7)) a = C.1 a := fun a x y z => (u1 a x).trans (b3 a y z)
  have sA : ∀ a, a ≠ 291 → a ≠ 333 → Sb.1 a = S.1 a := fun a x y => funext fun k => e3 a k (by omega) y
  have rA : ∀ a, a ≠ 280 → a ≠ 286 → C1.2.2.2 a = C.2.2.2 a := fun a x y => by rw [b6, qc_u_off _ _ x, r1 a y]
  have dA : ∀ a, a ≠ 264 → a ≠ 285 → D' a = C.2.2.1 a := fun a x y => (d3 a x).trans (b5 a y)
  have hb : ∀ a, 338 ≤ a → C1.2.2.2 a = C.2.2.2 a ∧ qc_u C1.1 257 7 (qx_rc C.1 (C.1 (C.2.2.2 290 q) 7)) a = C.1 a ∧ D' a = C.2.2.1 a := fun a ha => ⟨rA a (by omega) (by omega), iA a (by omega) (by omega) (by omega), dA a (by omega) (by omega)⟩
  have c280 : ∀ k, qc_u C1.1 257 7 (qx_rc C.1 (C.1 (C.2.2.2 290 q) 7)) 280 k = C1.1 280 k := fun k => congrFun (u1 280 (by decide)) k
  refine ⟨s, (qc_u C1.1 257 7 (qx_rc C.1 (C.1 (C.2.2.2 290 q) 7)), L', D', C1.2.2.2), Sb, hs1, ⟨?_, e1⟩, ⟨R286, hb, fun a x y => (sA a (by omega) (by omega)).trans (hS a (by omega)).1, f72, (e6 305 (by decide)).trans (hS 305 (by decide)).2.2, iA 258 (by decide) (by decide) (by decide), ?_, (c280 13).trans b2h⟩, fun k hk => by rw [e6 329 (by decide)]; exact hN k hk, f69, ⟨?_, by omega, f73, fun j hj => by omega, ?_, ?_, fun k hk => ?_⟩, ?_, f71, (e3 291 0 (by omega) (by decide)).trans h0, ⟨(c280 0).trans b2a, (c280 1).trans b2b, (c280 2).trans b2c, (c280 3).trans b2d, (c280 6).trans b2g, f77, f79, f80, f82, f88⟩, ⟨qx_g0 s n2, (c280 5).trans b2f, f81, ?_, fun z => ?_, fun z => ⟨?_, e8 z⟩⟩, ⟨qc_u_at C1.1 257 7 _, hrc, fun i t z z1 z2 => ?_⟩, ⟨iA, rA, dA⟩, e3, e6, e7⟩
  · unfold fX4_go
    rw [a6, qc_gdt, qc_u_at, a6, qc_gdt, b1, qx_bdS, R286, a6, qc_gdt, I7, d1, qc_bds]
    rfl
  · rw [b6, qc_u_at]
  · unfold qx_cols
    dsimp only
    rw [iA 258 (by decide) (by decide) (by decide), iA 259 (by decide) (by decide) (by decide), iA 260 (by decide) (by decide) (by decide), sA 292 (by decide) (by decide), sA 293 (by decide) (by decide), sA 294 (by decide) (by decide), d2 261 (by decide), b4 261 (by decide) (by decide), dA 262 (by decide) (by decide), e6 296 (by decide), show Sb.2.1 295 = S.2.1 295 from funext fun k => e5 295 k (by omega) (by decide) (by decide)]
    exact hcols
  · exact funext fun k => e5 295 k (by omega) (by decide) (by decide)
  · exact e6 296 (by decide)
  · dsimp only
    rw [d2 261 (by decide), b4 261 (by decide) (by decide), dA 262 (by decide) (by decide)]
    exact ⟨rfl, rfl⟩
  · exact (c280 4).trans (b2e.trans (by rw [e4]; rfl))
  · unfold qx_g0
    split <;> omega
  · unfold qx_g0
    rw [if_neg (fun y => by omega)]
  · obtain ⟨y1, y2, y3, y4⟩ := b7 z
    dsimp only
    rw [u1 281 (by decide), d2 283 (by decide), d2 284 (by decide), d3 285 (by decide)]
    exact ⟨y1, y2, y3, y4⟩
  · obtain ⟨y1, y2⟩ := d4 i t z z1 z2
    rw [b4 261 (by decide) (by decide)] at y1
    rw [b5 262 (by decide)] at y2
    exact ⟨y1, y2⟩
end
