/-! query, as a pair; the state that holds between calls -/
def Iv (w : qcW) (M : qcM) : Prop := Inv w M ∧ qc_WF w
section
variable {kd ln0 : Nat → Nat} {N n nr : Nat}
theorem qzV_lo {a : Nat} (ha : a < N) : (qzV kd ln0 N n nr).2.1 a = kd a ∧ (qzV kd ln0 N n nr).2.2 a = ln0 a := by
  refine ⟨?_, ?_⟩
  · show va_up (va_up (va_up (va_up (va_up kd N 6) (N + 1) 100) (N + 1 + 1) 100) (N + 1 + 1 + 1) 100) (N + 1 + 1 + 1 + 1) 102 a = kd a
    unfold va_up
    rw [if_neg (by omega), if_neg (by omega), if_neg (by omega), if_neg (by omega), if_neg (by omega)]
  · show va_up (va_up (va_up (va_up (va_up ln0 N 0) (N + 1) 4) (N + 1 + 1) n) (N + 1 + 1 + 1) n) (N + 1 + 1 + 1 + 1) nr a = ln0 a
    unfold va_up
    rw [if_neg (by omega), if_neg (by omega), if_neg (by omega), if_neg (by omega), if_neg (by omega)]
theorem qzV_hi (h : 338 ≤ N) : qc_io (qzV kd ln0 N n nr) N 6 = true ∧ (qc_ia (qzV kd ln0 N n nr) (N + 1) 100 = true ∧ (qzV kd ln0 N n nr).2.2 (N + 1) = 4) ∧ (qc_ia (qzV kd ln0 N n nr) (N + 2) 100 = true ∧ (qzV kd ln0 N n nr).2.2 (N + 2) = n) ∧ (qc_ia (qzV kd ln0 N n nr) (N + 3) 100 = true ∧ (qzV kd ln0 N n nr).2.2 (N + 3) = n) ∧ (qc_ia (qzV kd ln0 N n nr) (N + 4) 102 = true ∧ (qzV kd ln0 N n nr).2.2 (N + 4) = nr) := by
  have e1 : ∀ a, (qzV kd ln0 N n nr).2.1 a = va_up (va_up (va_up (va_up (va_up kd N 6) (N + 1) 100) (N + 1 + 1) 100) (N + 1 + 1 + 1) 100) (N + 1 + 1 + 1 + 1) 102 a := fun _ => rfl
  have e2 : ∀ a, (qzV kd ln0 N n nr).2.2 a = va_up (va_up (va_up (va_up (va_up ln0 N 0) (N + 1) 4) (N + 1 + 1) n) (N + 1 + 1 + 1) n) (N + 1 + 1 + 1 + 1) nr a := fun _ => rfl
  have e3 : (qzV kd ln0 N n nr).1 = N + 5 := rfl
  unfold va_up at e1 e2
  have io : ∀ {a c : Nat}, c < 11 → 256 ≤ a → a < N + 5 → (qzV kd ln0 N n nr).2.1 a = c → qc_io (qzV kd ln0 N n nr) a c = true := fun {a c} h1 h2 h3 h4 => by
    unfold qc_io
    simp only [Bool.and_eq_true, Nat.blt_eq, Nat.ble_eq, Nat.beq_eq]
    exact ⟨⟨⟨h1, h2⟩, by omega⟩, h4⟩
  have ia : ∀ {a c : Nat}, 256 ≤ a → a < N + 5 → (qzV kd ln0 N n nr).2.1 a = c → qc_ia (qzV kd ln0 N n nr) a c = true := fun {a c} h2 h3 h4 => by
    unfold qc_ia
    simp only [Bool.and_eq_true, Nat.blt_eq, Nat.ble_eq, Nat.beq_eq]
    exact ⟨⟨h2, by omega⟩, h4⟩
  refine ⟨io (by decide) (by omega) (by omega) ?_, ⟨ia (by omega) (by omega) ?_, ?_⟩, ⟨ia (by omega) (by omega) ?_, ?_⟩, ⟨ia (by omega) (by omega) ?_, ?_⟩, ⟨ia (by omega) (by omega) ?_, ?_⟩⟩
  · rw [e1, if_neg (by omega), if_neg (by omega), if_neg (by omega), if_neg (by omega), if_pos rfl]
  · rw [e1, if_neg (by omega), if_neg (by omega), if_neg (by omega), if_pos rfl]
  · rw [e2, if_neg (by omega), if_neg (by omega), if_neg (by omega), if_pos rfl]
  · rw [e1, if_neg (by omega), if_neg (by omega), if_pos rfl]
  · rw [e2, if_neg (by omega), if_neg (by omega), if_pos rfl]
  · rw [e1, if_neg (by omega), if_pos rfl]
  · rw [e2, if_neg (by omega), if_pos rfl]
  · rw [e1, if_pos rfl]
  · rw [e2, if_pos rfl]
theorem qzV_WF (hW : qc_WF (N, kd, ln0)) : qc_WF (qzV kd ln0 N n nr) := by
  obtain ⟨h1, h2⟩ := hW
  have h1 : qcNF ≤ N := h1
  have hNF : qcNF = 338 := rfl
  refine ⟨by show qcNF ≤ N + 5; omega, fun c hc => ?_⟩
  have := h2 c hc
  rw [(qzV_lo (a := c) (by omega)).1, (qzV_lo (a := c + 1) (by omega)).1, (qzV_lo (a := c + 1) (by omega)).2, (qzV_lo (a := c + 2) (by omega)).1, (qzV_lo (a := c + 2) (by omega)).2]
  exact this
end
theorem qyF_of {w : qcW} {n : Nat} {I I' J I2 : qTI} {L L2 : qTL} {D D' DJ D2 : qTD} {R R' R2 : qTR} (f1 : rF I D R I' D' R') (hJ : ∀ a k, a < w.1 → ¬ (a = 256 ∧ (k = 6 ∨ k = 8)) → ¬ (a = 265 ∧ k = 1) → J a k = I' a k) (hDJ : ∀ a k, a < w.1 → DJ a k = D' a k) (hN : nF n J I2) (hL : ∀ a k, a < w.1 → ¬ (a = 291 ∧ k = 12) → L2 a k = L a k) (hD : ∀ a k, ¬ (a = 291 ∧ k = 14) → ¬ (a = 305 ∧ 100 * n ≤ k) → D2 a k = DJ a k) (hR : ∀ a k, a < w.1 → ¬ (a = 290 ∧ k = n) → R2 a k = R' a k) : qyF n w I L D R I2 L2 D2 R2 := by
  obtain ⟨g1, g2, g3⟩ := f1
  refine ⟨fun a k b0 b1 b2 b3 b4 b5 b6 b7 b8 b9 b10 b11 => ?_, hL, fun a k b0 b1 b2 b3 b4 => ?_, fun a k b0 b1 b2 b3 => ?_⟩
  · rw [hN a k (by omega) b6 b9 b10 b11, hJ a k b0 b4 b5, g1 a b1 b2 b3]
  · rw [hD a k b3 b4, hDJ a k b0, g2 a b1 b2]
  · rw [hR a k b0 b3, g3 a k b1 b2]
