/-! what stands after a query was read -/
theorem wf_co {nr n : Nat} {op ar op' ar' : Nat → Int32} {res : List Nat} (h : qw_wf nr n op ar res) (ho : ∀ i, i < n → op' i = op i) (ha : ∀ i, i < n → ar' i = ar i) : qw_wf nr n op' ar' res := by
  obtain ⟨h1, H, h2, h3, h4, h5⟩ := h
  refine ⟨h1, H, h2, h3, h4, fun i hi => ?_⟩
  have := h5 i hi
  unfold qw_at at this ⊢
  rw [ho i hi, ha i hi]
  exact this
theorem ns_co {n : Nat} {op op' : Nat → Int32} (h : qw_ns n op) (ho : ∀ i, i < n → op' i = op i) : qw_ns n op' := fun i hi l hl => by
  rw [ho i hi]
  exact h i hi l hl
section
variable {w w' : qcW} {I I2 : qTI} {L L2 : qTL} {D D2 : qTD} {R R2 : qTR} {q n : Nat}
theorem io_co (hw : ∀ a, a < w.1 → w'.2.1 a = w.2.1 a ∧ w'.2.2 a = w.2.2 a) (hw1 : w.1 ≤ w'.1) {a c : Nat} (h : qc_io w a c = true) : qc_io w' a c = true := by
  unfold qc_io at h ⊢
  simp only [Bool.and_eq_true, Nat.blt_eq, Nat.ble_eq, Nat.beq_eq] at h ⊢
  exact ⟨⟨⟨h.1.1.1, h.1.1.2⟩, by omega⟩, by rw [(hw a h.1.2).1]; exact h.2⟩
theorem ia_co (hw : ∀ a, a < w.1 → w'.2.1 a = w.2.1 a ∧ w'.2.2 a = w.2.2 a) (hw1 : w.1 ≤ w'.1) {a c : Nat} (h : qc_ia w a c = true) : qc_ia w' a c = true ∧ w'.2.2 a = w.2.2 a ∧ a < w.1 := by
  unfold qc_ia at h ⊢
  simp only [Bool.and_eq_true, Nat.blt_eq, Nat.ble_eq, Nat.beq_eq] at h ⊢
  exact ⟨⟨⟨h.1.1, by omega⟩, by rw [(hw a h.1.2).1]; exact h.2⟩, (hw a h.1.2).2, h.1.2⟩
theorem qq_B_mono (h : qq_B w I D R q) (hw : ∀ a, a < w.1 → w'.2.1 a = w.2.1 a ∧ w'.2.2 a = w.2.2 a) (hw1 : w.1 ≤ w'.1) (hR : R2 290 q = R 290 q) (hR2 : ∀ a k, 338 ≤ a → a < w.1 → R2 a k = R a k) (hI : ∀ a k, 338 ≤ a → a < w.1 → I2 a k = I a k) (hD : ∀ a k, 338 ≤ a → a < w.1 → D2 a k = D a k)
    (h315 : ∀ k, k < 600 * q + 600 → I2 315 k = I 315 k ∧ I2 316 k = I 316 k) (h317 : ∀ k, k < 3 * q + 3 → I2 317 k = I 317 k) (h318 : ∀ a, 318 ≤ a → a ≤ 323 → I2 a q = I a q) (h305 : ∀ k, k < 100 * q + 100 → D2 305 k = D 305 k) : qq_B w' I2 D2 R2 q := by
  obtain ⟨n0, n1, n2, nr, ⟨a1, a2, a3, a4, a5, a6, a7, a8, a9, a10, a11, a12, a13, a14, a15⟩, ⟨b1, b2, b3, b4, b5, b6, b7, b8, b9, b10, b11⟩, ⟨c1, c2, c3, c4⟩, ⟨d1, d2, d3, d4⟩, e⟩ := h
  have hx : R 290 q < w.1 := by
    unfold qc_io at a1
    simp only [Bool.and_eq_true, Nat.blt_eq] at a1
    exact a1.1.2
  have r : ∀ k, R2 (R 290 q) k = R (R 290 q) k := fun k => hR2 _ k a2 hx
  have i : ∀ k, I2 (R 290 q) k = I (R 290 q) k := fun k => hI _ k a2 hx
  obtain ⟨f1, f2, f3⟩ := ia_co hw hw1 a3
  obtain ⟨f4, f5, f6⟩ := ia_co hw hw1 a6
  obtain ⟨f7, f8, f9⟩ := ia_co hw hw1 a9
  obtain ⟨f10, f11, f12⟩ := ia_co hw hw1 a12
  have g0 : ∀ k, I2 (R (R 290 q) 0) k = I (R (R 290 q) 0) k := fun k => hI _ k a4 f3
  have g1 : ∀ k, I2 (R (R 290 q) 1) k = I (R (R 290 q) 1) k := fun k => hI _ k a7 f6
  have g2 : ∀ k, I2 (R (R 290 q) 2) k = I (R (R 290 q) 2) k := fun k => hI _ k a10 f9
  have g3 : ∀ k, D2 (R (R 290 q) 3) k = D (R (R 290 q) 3) k := fun k => hD _ k a13 f12
  have o0 : ∀ i, i < n0 → I2 315 (600 * q + i) = I 315 (600 * q + i) ∧ I2 316 (600 * q + i) = I 316 (600 * q + i) := fun i hi => h315 _ (by omega)
  have o1 : ∀ i, i < n1 → I2 315 (600 * q + 200 + i) = I 315 (600 * q + 200 + i) ∧ I2 316 (600 * q + 200 + i) = I 316 (600 * q + 200 + i) := fun i hi => h315 _ (by omega)
  have o2 : ∀ i, i < n2 → I2 315 (600 * q + 400 + i) = I 315 (600 * q + 400 + i) ∧ I2 316 (600 * q + 400 + i) = I 316 (600 * q + 400 + i) := fun i hi => h315 _ (by omega)
  have w1 : ∀ res, qw_wf nr n1 (fun i => I 315 (600 * q + 200 + i)) (fun i => I 316 (600 * q + 200 + i)) res → qw_wf nr n1 (fun i => I2 315 (600 * q + 200 + i)) (fun i => I2 316 (600 * q + 200 + i)) res := fun res h => wf_co h (fun i hi => (o1 i hi).1) (fun i hi => (o1 i hi).2)
  have w2 : ∀ res, qw_wf nr n2 (fun i => I 315 (600 * q + 400 + i)) (fun i => I 316 (600 * q + 400 + i)) res → qw_wf nr n2 (fun i => I2 315 (600 * q + 400 + i)) (fun i => I2 316 (600 * q + 400 + i)) res := fun res h => wf_co h (fun i hi => (o2 i hi).1) (fun i hi => (o2 i hi).2)
  have v1 : qw_ns n1 (fun i => I 315 (600 * q + 200 + i)) → qw_ns n1 (fun i => I2 315 (600 * q + 200 + i)) := fun h => ns_co h (fun i hi => (o1 i hi).1)
  refine ⟨n0, n1, n2, nr, ?_, ?_, ?_, ?_, ?_⟩
  · rw [hR, r, r, r, r, r]
    exact ⟨io_co hw hw1 a1, a2, f1, a4, by rw [f2]; exact a5, f4, a7, by rw [f5]; exact a8, f7, a10, by rw [f8]; exact a11, f10, a13, by rw [f11]; exact a14, a15⟩
  · rw [hR, r, g2, g2, g2, g2, h317 _ (by omega), h317 _ (by omega), h317 _ (by omega)]
    exact ⟨b1, b2, b3, b4, b5, b6, b7, b8, b9, b10, b11⟩
  · rw [hR, r, r, r]
    refine ⟨fun i hi => ?_, fun i hi => ?_, fun i hi => ?_, fun i hi => ?_⟩
    · rw [g0, g1, (o0 i hi).1, (o0 i hi).2]; exact c1 i hi
    · rw [g0, g1, (o1 i hi).1, (o1 i hi).2]; exact c2 i hi
    · rw [g0, g1, (o2 i hi).1, (o2 i hi).2]; exact c3 i hi
    · rw [g3, h305 _ (by omega)]; exact c4 i hi
  · refine ⟨?_, ns_co d2 (fun i hi => (o0 i hi).1), ?_, ns_co d4 (fun i hi => (o2 i hi).1)⟩
    · rcases d1 with z | z
      · exact Or.inl z
      · exact Or.inr (wf_co z (fun i hi => (o0 i hi).1) (fun i hi => (o0 i hi).2))
    · rcases d3 with z | z | z
      · exact Or.inl z
      · exact Or.inr (Or.inl (w2 _ z))
      · exact Or.inr (Or.inr (w2 _ z))
  · rw [hR, r, r, i, i, i, i, h318 318 (by decide) (by decide), h318 319 (by decide) (by decide), h318 320 (by decide) (by decide), h318 321 (by decide) (by decide), h318 322 (by decide) (by decide)]
    rcases e with ⟨e1, e2, e3, e4, e5, e6⟩ | ⟨e1, e2, e3, e4, e5, e6, k, e7, e8, e9, e10, e11, e12, e13⟩ | ⟨e1, e2, e3, e4, e5, e6, e7, e8, e9, e10, l, e11, e12, e13⟩
    · left
      refine ⟨e1, e2, e3, v1 e4, ?_, e6⟩
      rcases e5 with z | ⟨z1, z2⟩
      · exact Or.inl z
      · exact Or.inr ⟨w1 _ z1, z2⟩
    · right; left
      refine ⟨e1, e2, e3, v1 e4, e5, e6, k, e7, e8, e9, e10, e11, e12, ?_⟩
      rcases e13 with z | ⟨z1, z2, z3⟩
      · exact Or.inl z
      · exact Or.inr ⟨z1, z2, w1 _ z3⟩
    · right; right
      refine ⟨e1, e2, e3, e4, e5, e6, e7, w1 _ e8, ns_co e9 (fun i hi => (o1 i (by omega)).1), e10, l, e11, ?_, ?_⟩
      · rw [(o1 (n1 - 1) (by omega)).1]; exact e12
      · rw [(o1 (n1 - 1) (by omega)).2]; exact e13
theorem lat_co {n n' : Int32} {lX lM lM' : Nat → Int32} {ac : Int64} {how : Nat} {wX wM : Nat → Int32} {sX sM : Nat → UInt64} {kX kM vX vM : Nat → Int64} {dX dM : Nat → UInt64} {hw hw' : Nat → Int32} (h : qi_lat n lX lM ac how wX wM sX sM kX kM vX vM dX dM hw) (hn : ∀ r : Nat, r < 12 → nI r < n → nI r < n') (hl : ∀ k, (77 ≤ k ∧ k ≤ 82) ∨ k = 88 → lM' k = lM k) (hh : ∀ r : Nat, r < 12 → nI r < n → hw' r = hw r) : qi_lat n' lX lM' ac how wX wM sX sM kX kM vX vM dX dM hw' := by
  obtain ⟨h1, h2, h3, h4, h5, h6, h7, hh0, h8, h9, h10, h11⟩ := h
  unfold qi_lat
  rw [hl 77 (by decide), hl 78 (by decide), hl 79 (by decide), hl 80 (by decide), hl 81 (by decide), hl 82 (by decide), hl 88 (by decide)]
  refine ⟨h1, h2, h3, h4, h5, h6, h7, hh0, h8, h9, h10, ?_⟩
  rcases h11 with z | ⟨z1, z2, z3, r, c, z4, z5, z6, z7, z8, z9, z10, z11, z12, z13⟩
  · exact Or.inl z
  · exact Or.inr ⟨z1, z2, z3, r, c, z4, z5, hn r z5 z6, z7, z8, z9, z10, by rw [hh r z5 z6]; exact z11, by rw [hh r z5 z6]; exact z12, z13⟩
/-- what a query's reading leaves alone, both told -/
def qyF (n : Nat) (w : qcW) (I : qTI) (L : qTL) (D : qTD) (R : qTR) (I2 : qTI) (L2 : qTL) (D2 : qTD) (R2 : qTR) : Prop :=
  (∀ a k, a < w.1 → a ≠ 267 → a ≠ 268 → ¬ (270 ≤ a ∧ a ≤ 278) → ¬ (a = 256 ∧ (k = 6 ∨ k = 8)) → ¬ (a = 265 ∧ k = 1) → ¬ (a = 291 ∧ nFk k = true) → ¬ (298 ≤ a ∧ a ≤ 314) → ¬ (324 ≤ a ∧ a ≤ 327) → ¬ ((a = 315 ∨ a = 316) ∧ 600 * n ≤ k ∧ k < 600 * n + 600) → ¬ (a = 317 ∧ 3 * n ≤ k ∧ k < 3 * n + 3) → ¬ (318 ≤ a ∧ a ≤ 323 ∧ k = n) → I2 a k = I a k) ∧
  (∀ a k, a < w.1 → ¬ (a = 291 ∧ k = 12) → L2 a k = L a k) ∧
  (∀ a k, a < w.1 → a ≠ 268 → a ≠ 279 → ¬ (a = 291 ∧ k = 14) → ¬ (a = 305 ∧ 100 * n ≤ k) → D2 a k = D a k) ∧
  (∀ a k, a < w.1 → ¬ (a = 267 ∧ (k = 4 ∨ k = 7 ∨ k = 8)) → ¬ (a = 268 ∧ k = 1) → ¬ (a = 290 ∧ k = n) → R2 a k = R a k)
theorem qv_vis_of {a : Nat} (h : qv_vis a = true) : a = 290 ∨ a = 305 ∨ (315 ≤ a ∧ a ≤ 323) ∨ 338 ≤ a := by
  unfold qv_vis at h
  simp only [Bool.or_eq_true, Bool.and_eq_true, Nat.ble_eq, Nat.beq_eq] at h
  omega
theorem nFk_77 : ∀ k, (77 ≤ k ∧ k ≤ 82) ∨ k = 88 → nFk k = false := by
  intro k hk
  have : ∀ k, k < 89 → (77 ≤ k ∧ k ≤ 82) ∨ k = 88 → nFk k = false := by decide
  exact this k (by omega) hk
theorem inv_after {m : Nat} (h : Inv w (I, L, D, R)) (hw : ∀ a, a < w.1 → w'.2.1 a = w.2.1 a ∧ w'.2.2 a = w.2.2 a) (hw1 : w.1 ≤ w'.1) (hF : qyF n w I L D R I2 L2 D2 R2) (hn : I 256 6 = nI n) (hn12 : n ≤ 12) (hFR : qc_FR R2) (ht : I2 265 1 = 0) (ht2 : I2 291 7 = 0) (hf : I2 256 8 = I2 291 64) (h6 : I2 256 6 = nI m) (h40 : I2 291 40 = nI m) (hm : m = n ∨ (m = n + 1 ∧ n < 12 ∧ qq_Q w' I2 D2 R2 n)) : Inv w' (I2, L2, D2, R2) := by
  obtain ⟨a1, a2, ⟨a3, a3'⟩, a4, a5, a6, a7, ⟨a8, n', a9, a10, a11⟩, a12⟩ := id h
  have hNF : qcNF = 338 := rfl
  have a9 : I 256 6 = nI n' := a9
  have hnn : n' = n := qi_nI_inj (by omega) (by omega) (a9.symm.trans hn)
  subst hnn
  obtain ⟨f1, f2, f3, f4⟩ := hF
  have g : ∀ a, a < 338 → a ≠ 256 → a ≠ 265 → a ≠ 267 → a ≠ 268 → ¬ (270 ≤ a ∧ a ≤ 278) → a ≠ 291 → ¬ (298 ≤ a ∧ a ≤ 327) → I2 a = I a := fun a b1 b2 b3 b4 b5 b6 b7 b8 => funext fun k => f1 a k (by omega) b4 b5 b6 (by omega) (by omega) (by omega) (by omega) (by omega) (by omega) (by omega) (by omega)
  have gL : ∀ a, a < 338 → a ≠ 291 → L2 a = L a := fun a b1 b2 => funext fun k => f2 a k (by omega) (by omega)
  have gD : ∀ a, a < 338 → a ≠ 268 → a ≠ 279 → a ≠ 291 → a ≠ 305 → D2 a = D a := fun a b1 b2 b3 b4 b5 => funext fun k => f3 a k (by omega) b2 b3 (by omega) (by omega)
  have g291 : ∀ k, nFk k = false → I2 291 k = I 291 k := fun k hk => f1 291 k (by omega) (by omega) (by omega) (by omega) (by omega) (by omega) (by rw [hk]; exact fun u => absurd u.2 (by decide)) (by omega) (by omega) (by omega) (by omega) (by omega)
  have g256 : ∀ k, k ≠ 6 → k ≠ 8 → I2 256 k = I 256 k := fun k b1 b2 => f1 256 k (by omega) (by omega) (by omega) (by omega) (by omega) (by omega) (by omega) (by omega) (by omega) (by omega) (by omega) (by omega)
  refine ⟨by omega, hFR, ⟨?_, ?_⟩, ?_, ⟨?_, ?_, fun k hk => ?_⟩, ?_, fun k hk => ?_, ⟨?_, m, ?_, ?_, fun q hq => ?_⟩, ?_⟩
  · dsimp only
    rw [g256 7 (by decide) (by decide), g291 0 rfl]
    exact a3
  · dsimp only
    rw [g256 7 (by decide) (by decide)]
    exact a3'
  · dsimp only
    rw [g 258 (by decide) (by decide) (by decide) (by decide) (by decide) (by decide) (by decide) (by decide), g 292 (by decide) (by decide) (by decide) (by decide) (by decide) (by decide) (by decide) (by decide), g 259 (by decide) (by decide) (by decide) (by decide) (by decide) (by decide) (by decide) (by decide), g 293 (by decide) (by decide) (by decide) (by decide) (by decide) (by decide) (by decide) (by decide), g 260 (by decide) (by decide) (by decide) (by decide) (by decide) (by decide) (by decide) (by decide), g 294 (by decide) (by decide) (by decide) (by decide) (by decide) (by decide) (by decide) (by decide), gL 261 (by decide) (by decide), gL 295 (by decide) (by decide), gD 262 (by decide) (by decide) (by decide) (by decide) (by decide), gD 296 (by decide) (by decide) (by decide) (by decide) (by decide)]
    exact a4
  · dsimp only
    rw [ht, ht2]
  · dsimp only
    rw [ht]; decide
  · dsimp only
    rw [g 266 (by decide) (by decide) (by decide) (by decide) (by decide) (by decide) (by decide) (by decide), g 297 (by decide) (by decide) (by decide) (by decide) (by decide) (by decide) (by decide) (by decide)]
    exact a5.2.2 k hk
  · exact hf
  · dsimp only
    rw [gD 329 (by decide) (by decide) (by decide) (by decide) (by decide)]
    exact a7 k hk
  · dsimp only
    rw [h6, h40]
  · exact h6
  · omega
  · have old : q < n' → qq_Q w' I2 D2 R2 q := fun hq => by
      have h0 := a11 q hq
      refine qq_B_mono h0 hw hw1 ?_ (fun a k b1 b2 => ?_) (fun a k b1 b2 => ?_) (fun a k b1 b2 => ?_) (fun k hk => ⟨?_, ?_⟩) (fun k hk => ?_) (fun a b1 b2 => ?_) (fun k hk => ?_)
      · rw [qv_on _ _ rfl, qv_on _ _ rfl]
        exact f4 290 q (by omega) (by omega) (by omega) (by omega)
      · have hv : qv_vis a = true := by unfold qv_vis; simp only [Bool.or_eq_true, Nat.ble_eq]; exact Or.inl (Or.inl (Or.inl b1))
        rw [qv_on _ _ hv, qv_on _ _ hv]
        exact f4 a k b2 (by omega) (by omega) (by omega)
      · have hv : qv_vis a = true := by unfold qv_vis; simp only [Bool.or_eq_true, Nat.ble_eq]; exact Or.inl (Or.inl (Or.inl b1))
        rw [qv_on _ _ hv, qv_on _ _ hv]
        exact f1 a k b2 (by omega) (by omega) (by omega) (by omega) (by omega) (by omega) (by omega) (by omega) (by omega) (by omega) (by omega)
      · have hv : qv_vis a = true := by unfold qv_vis; simp only [Bool.or_eq_true, Nat.ble_eq]; exact Or.inl (Or.inl (Or.inl b1))
        rw [qv_on _ _ hv, qv_on _ _ hv]
        exact f3 a k b2 (by omega) (by omega) (by omega) (by omega)
      · rw [qv_on _ _ rfl, qv_on _ _ rfl]
        exact f1 315 k (by omega) (by decide) (by decide) (by decide) (by omega) (by omega) (by omega) (by decide) (by decide) (by omega) (by omega) (by omega)
      · rw [qv_on _ _ rfl, qv_on _ _ rfl]
        exact f1 316 k (by omega) (by decide) (by decide) (by decide) (by omega) (by omega) (by omega) (by decide) (by decide) (by omega) (by omega) (by omega)
      · rw [qv_on _ _ rfl, qv_on _ _ rfl]
        exact f1 317 k (by omega) (by decide) (by decide) (by decide) (by omega) (by omega) (by omega) (by decide) (by decide) (by omega) (by omega) (by omega)
      · have hv : qv_vis a = true := by
          rcases (show a = 318 ∨ a = 319 ∨ a = 320 ∨ a = 321 ∨ a = 322 ∨ a = 323 by omega) with z | z | z | z | z | z <;> rw [z] <;> rfl
        rw [qv_on _ _ hv, qv_on _ _ hv]
        exact f1 a q (by omega) (by omega) (by omega) (by omega) (by omega) (by omega) (by omega) (by omega) (by omega) (by omega) (by omega) (by omega)
      · rw [qv_on _ _ rfl, qv_on _ _ rfl]
        exact f3 305 k (by omega) (by decide) (by decide) (by omega) (by omega)
    rcases hm with z | ⟨z1, z2, z3⟩
    · exact old (by omega)
    · by_cases y : q = n'
      · rw [y]; exact z3
      · exact old (by omega)
  · dsimp only
    rw [h6]
    have e280 : R2 280 12 = R 280 12 := f4 280 12 (by omega) (by omega) (by omega) (by omega)
    have e291 : L2 291 70 = L 291 70 := f2 291 70 (by omega) (by decide)
    rw [g 280 (by decide) (by decide) (by decide) (by decide) (by decide) (by decide) (by decide) (by decide), e291, e280, g 281 (by decide) (by decide) (by decide) (by decide) (by decide) (by decide) (by decide) (by decide), g 333 (by decide) (by decide) (by decide) (by decide) (by decide) (by decide) (by decide) (by decide), gD 282 (by decide) (by decide) (by decide) (by decide) (by decide), gD 334 (by decide) (by decide) (by decide) (by decide) (by decide), gL 283 (by decide) (by decide), gL 335 (by decide) (by decide), gL 284 (by decide) (by decide), gL 336 (by decide) (by decide), gD 285 (by decide) (by decide) (by decide) (by decide) (by decide), gD 337 (by decide) (by decide) (by decide) (by decide) (by decide)]
    refine lat_co a12 (fun r hr hlt => ?_) (fun k hk => g291 k (nFk_77 k hk)) (fun r hr hlt => ?_)
    · have hlt : nI r < I 256 6 := hlt
      rw [a9] at hlt
      have := (qi_lt (by omega) (by omega)).mp hlt
      exact (qi_lt (by omega) (by omega)).mpr (by omega)
    · have hlt : nI r < I 256 6 := hlt
      rw [a9] at hlt
      have := (qi_lt (by omega) (by omega)).mp hlt
      exact f1 321 r (by omega) (by omega) (by omega) (by omega) (by omega) (by omega) (by omega) (by omega) (by omega) (by omega) (by omega) (by omega)
end
