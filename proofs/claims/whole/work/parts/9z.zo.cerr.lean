/-! a fault was told: the class reads on, and nothing comes of it -/
def eP (c B : Nat) (e : Nat × Nat) (I : qTI) (R : qTR) : Prop := rE B e I R ∧ R 267 4 = c
def eO {α : Type} (P : qTI → qTR → Prop) (I : qTI) (L : qTL) (D : qTD) (R : qTR) (out : qcO α) : Prop :=
  ∃ (r : α) (I' : qTI) (D' : qTD) (R' : qTR), out = some (r, I', L, D', R') ∧ rF I D R I' D' R' ∧ P I' R'
section
variable {w : qcW} {I : qTI} {L : qTL} {D : qTD} {R : qTR} {c B k : Nat} {e : Nat × Nat} {P Q : qTI → qTR → Prop}
theorem eO_bd {α β : Type} {out : qcO α} {f : α → qTI → qTL → qTD → qTR → qcO β} (h : eO P I L D R out) (g : ∀ (r : α) (I : qTI) (D : qTD) (R : qTR), P I R → eO Q I L D R (f r I L D R)) : eO Q I L D R (qc_bd out f) := by
  obtain ⟨r, I1, D1, R1, h1, h2, h3⟩ := h
  obtain ⟨r2, I2, D2, R2, g1, g2, g3⟩ := g r I1 D1 R1 h3
  exact ⟨r2, I2, D2, R2, by rw [h1]; exact g1, rF_tr h2 g2, g3⟩
theorem eO_some {α : Type} (h : P I R) (r : α) : eO P I L D R (some (r, I, L, D, R)) := ⟨r, I, D, R, rfl, rF_rf _ _ _, h⟩
theorem eO_mono {α : Type} {out : qcO α} (h : eO P I L D R out) (g : ∀ I R, P I R → Q I R) : eO Q I L D R out := by
  obtain ⟨r, I1, D1, R1, h1, h2, h3⟩ := h
  exact ⟨r, I1, D1, R1, h1, h2, g _ _ h3⟩
theorem rE_mono {B2 : Nat} (h : rE B e I R) (hB : B ≤ B2) : rE B2 e I R := ⟨h.1, h.2.1, fun c' hc' => by
  obtain ⟨n, h1, h2⟩ := h.2.2 c' hc'
  exact ⟨n, by omega, h2⟩⟩
theorem eO_I {α : Type} {out : qcO α} (j : Nat) (v : Int32) (h : eO P (qc_u I 267 j v) L D R out) : eO P I L D R out := by
  obtain ⟨r, I1, D1, R1, h1, h2, h3⟩ := h
  exact ⟨r, I1, D1, R1, h1, rF_tr (rF_I j v) h2, h3⟩
theorem eO_c {α : Type} {out : qcO α} (h : eO P I L D (qc_u R 267 4 c) out) : eO P I L D R out := by
  obtain ⟨r, I1, D1, R1, h1, h2, h3⟩ := h
  exact ⟨r, I1, D1, R1, h1, rF_tr (rF_c c) h2, h3⟩
theorem eO_r {α : Type} {out : qcO α} {j v : Nat} (hj : j = 7 ∨ j = 8) (h : eO P I L D (qc_u R 267 j v) out) : eO P I L D R out := by
  obtain ⟨r, I1, D1, R1, h1, h2, h3⟩ := h
  exact ⟨r, I1, D1, R1, h1, rF_tr (rF_r hj v) h2, h3⟩
theorem rE_I (h : rE B e I R) (j : Nat) (v : Int32) : rE B e (qc_u I 267 j v) R := by
  obtain ⟨⟨a1, a2, a3, a4, a5⟩, a6, a7⟩ := h
  refine ⟨⟨?_, a2, a3, ?_, a5⟩, a6, fun c' hc' => ?_⟩
  · rw [qc_u_ne _ _ (Or.inl (by decide))]; exact a1
  · rw [qc_u_ne _ _ (Or.inl (by decide))]; exact a4
  · rw [qc_u_ne _ _ (Or.inl (by omega))]; exact a7 c' hc'
theorem rE_R (h : rE B e I R) {j : Nat} (hj : j = 4 ∨ j = 7 ∨ j = 8) (v : Nat) : rE B e I (qc_u R 267 j v) := by
  obtain ⟨⟨a1, a2, a3, a4, a5⟩, a6, a7⟩ := h
  exact ⟨⟨a1, a2, a3, a4, by rw [qc_u_ne _ _ (Or.inl (by decide))]; exact a5⟩, FR_4 a6 hj v, a7⟩
theorem eP_I (h : eP c B e I R) (j : Nat) (v : Int32) : eP c B e (qc_u I 267 j v) R := ⟨rE_I h.1 j v, h.2⟩
theorem eP_c (h : rE B e I R) (c : Nat) : eP c B e I (qc_u R 267 4 c) := ⟨rE_R h (Or.inl rfl) c, qc_u_at _ _ _ _⟩
theorem eO_eU {α : Type} {out : qcO α} (hc : c = 270 ∨ c = 273 ∨ c = 276) (h : eP c B e I R) (g : ∀ n, n ≤ B → eS c e n I R → eU c e n k I L D R out) : eO (eP c (B + k) e) I L D R out := by
  obtain ⟨n, h1, h2⟩ := h.1.2.2 c hc
  obtain ⟨r, I1, D1, R1, n1, g1, g2, g3, g4, g5⟩ := g n h1 ⟨h.1.1, h.2, h.1.2.1, h2⟩
  exact ⟨r, I1, D1, R1, g1, rF_X hc g2, rE_X (B := B + k) hc (fun c' hc' => by
    obtain ⟨m, m1, m2⟩ := h.1.2.2 c' hc'
    exact ⟨m, by omega, m2⟩) g2 g3 (by omega), g3.2.1⟩
theorem rE_6 (h : rE B e I R) : I 268 6 ≠ 0 := by
  have h1 := h.1.1
  have h2 := h.1.2.1
  have h3 := h.1.2.2.1
  rw [h1]
  intro z
  have z2 := congrArg Int32.toInt z
  rw [nI_toInt (by omega)] at z2
  have z3 : (0 : Int32).toInt = 0 := rfl
  omega
theorem eO_took (h : rE B e I R) {m : Nat} (hm : m < 62) (h4 : m ≠ 4) : fX2_took w I L D R m = some (false, I, L, D, R) := by
  unfold fX2_took
  have h5 : R 268 1 = 4 := h.1.2.2.2.2
  rw [show qc_l62 m = true from Nat.ble_eq.mpr hm, h5, qc_gdt, show qc_l62 4 = true from rfl, qc_gdt, if_neg (fun z => h4 z.symm)]
end
