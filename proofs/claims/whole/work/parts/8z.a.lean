/-! hits of both -/
section
variable {w : qcW} {I : qTI} {L : qTL} {D : qTD} {R : qTR}
theorem qy_F : 16 < qcF := by unfold qcF; omega
theorem mx_sort {x x1 : Int32} (hx : x = 1 ∧ x1 = 0 ∨ x = -1 ∧ x1 = 1) {h : Nat} {f : Nat → Int32} {d : Nat → UInt64} (hh : h ≤ 16) (h81 : I 291 81 = nI h) (hN : ∀ k, k < h → qf_N (d k)) : ∀ (N n : Nat), h < N + n → n ≤ h → fX12_sorts_l21 w N (qi_rr I 333 (qy_all (qy_st x) n f d).1, L, qi_rr D 334 (qy_all (qy_st x) n f d).2, R, x1, nI n) = some ((), qi_rr I 333 (qy_all (qy_st x) h f d).1, L, qi_rr D 334 (qy_all (qy_st x) h f d).2, R)
  | 0, n, h1, h2 => by omega
  | N + 1, n, h1, h2 => by
    rw [fX12_sorts_l21_s]
    unfold fX12_sorts_b21
    rw [qi_rr_off _ _ (show 291 ≠ 333 by decide), h81]
    by_cases hn : n = h
    · subst hn
      rw [if_pos (Int32.le_refl _)]
    · have hlt : ¬ nI h ≤ nI n := fun z => by have := (qi_le (by omega) (by omega)).mp z; omega
      obtain ⟨e1, e2⟩ := qy_all_hi (qy_st x) f d n n (Nat.le_refl _)
      rw [if_neg hlt, qi_inbN (show n < 16 by omega) (by decide), qc_gdt, qc_gdt, nI_clamp (by omega), qi_rr_on, qi_rr_on, e1, e2]
      rw [mx_ins hx _ _ _ _ (hN n (by omega)) qcF n _ _ (by have := qy_F; omega) (by omega) (fun k hk => qy_all_P (qy_st x) (fun _ v => qf_N v) f d n (fun j hj => hN j (by omega)) k hk), qi_s1]
      exact mx_sort hx hh h81 hN N (n + 1) (by omega) (by omega)
theorem mx_sorts {x : Int32} {h q : Nat} (hq : q < 12) (hh : h ≤ 16) (h72 : I 291 72 = nI q) (h319 : x = 1 ∧ I 319 q = 0 ∨ x = -1 ∧ I 319 q = 1) (h81 : I 291 81 = nI h) (hN : ∀ k, k < h → qf_N (D 334 k)) : fX12_sorts w I L D R = some ((), qi_rr I 333 (qy_all (qy_st x) h (I 333) (D 334)).1, L, qi_rr D 334 (qy_all (qy_st x) h (I 333) (D 334)).2, R) := by
  have e : ∀ x1 : Int32, x = 1 ∧ x1 = 0 ∨ x = -1 ∧ x1 = 1 → fX12_sorts_l21 w qcF (I, L, D, R, x1, 1) = some ((), qi_rr I 333 (qy_all (qy_st x) h (I 333) (D 334)).1, L, qi_rr D 334 (qy_all (qy_st x) h (I 333) (D 334)).2, R) := by
    intro x1 hx
    have q1 : qy_all (qy_st x) 1 (I 333) (D 334) = (I 333, D 334) := by
      show (qi_up (I 333) 0 (I 333 0), qi_up (D 334) 0 (D 334 0)) = _
      rw [qi_up_self, qi_up_self]
    by_cases h0 : h = 0
    · subst h0
      obtain ⟨N, hN2⟩ : ∃ N, qcF = N + 1 := ⟨qcF - 1, by have := qy_F; omega⟩
      rw [hN2, fX12_sorts_l21_s]
      unfold fX12_sorts_b21
      rw [h81, if_pos (show nI 0 ≤ 1 by decide)]
      show _ = some ((), qi_rr I 333 (I 333), L, qi_rr D 334 (D 334), R)
      rw [qi_rr_0, qi_rr_0]
    · have z := mx_sort (w := w) (I := I) (L := L) (D := D) (R := R) hx (f := I 333) (d := D 334) hh h81 hN qcF 1 (by have := qy_F; omega) (by omega)
      rw [q1] at z
      dsimp only at z
      rw [qi_rr_0, qi_rr_0] at z
      exact z
  unfold fX12_sorts fX12_sorts_b18
  rw [h72, qi_inbN hq (by decide), qc_gdt, nI_clamp (by omega)]
  rcases h319 with ⟨a1, a2⟩ | ⟨a1, a2⟩
  · rw [a2, if_neg (show ¬ (0 : Int32) = 1 by decide)]
    exact e 0 (Or.inl ⟨a1, rfl⟩)
  · rw [a2, if_pos rfl]
    exact e 1 (Or.inr ⟨a1, rfl⟩)
end
/-- the hits of both: with the class in their order, with the reference as they came -/
def qx_Hh (x : Int32) (t h : Nat) (C S : qcM) : Prop := C.1 280 5 = nI h ∧ S.1 291 81 = nI h ∧ h ≤ t ∧ (∀ k, k < h → C.1 281 k = (qy_all (qy_st x) h (S.1 333) (S.2.2.1 334)).1 k ∧ C.2.2.1 282 k = (qy_all (qy_st x) h (S.1 333) (S.2.2.1 334)).2 k) ∧ ∀ k, k < h → qc_inb (S.1 333 k) 17 = true ∧ qf_N (S.2.2.1 334 k)
def qx_hc (C C' : qcM) : Prop := (∀ a k, a ≠ 281 → ¬ (a = 280 ∧ k = 5) → C'.1 a k = C.1 a k) ∧ C'.2.1 = C.2.1 ∧ (∀ a, a ≠ 282 → C'.2.2.1 a = C.2.2.1 a) ∧ C'.2.2.2 = C.2.2.2
def qx_hs (S S' : qcM) : Prop := (∀ a k, a ≠ 333 → ¬ (a = 291 ∧ k = 81) → S'.1 a k = S.1 a k) ∧ S'.2.1 = S.2.1 ∧ (∀ a, a ≠ 334 → S'.2.2.1 a = S.2.2.1 a) ∧ S'.2.2.2 = S.2.2.2
section
variable {w : qcW} {C S : qcM}
theorem qx_hit {x : Int32} {t h : Nat} {a : Int32} {v : UInt64} (hx : x = 1 ∨ x = -1 ∨ x = 0) (hH : qx_Hh x t h C S) (ht : t < 16) (ha : qc_inb a 17 = true) (hv : qf_N v) :
    ∃ C' S', fX3_insert w C.1 C.2.1 C.2.2.1 C.2.2.2 a v x = some ((), C') ∧ fX12_hit w S.1 S.2.1 S.2.2.1 S.2.2.2 a v = some ((), S') ∧ qx_hc C C' ∧ qx_hs S S' ∧ qx_Hh x (t + 1) (h + 1) C' S' := by
  obtain ⟨h1, h2, h3, h4, h5⟩ := hH
  have hh : h < 16 := by omega
  have eX : fX3_insert w C.1 C.2.1 C.2.2.1 C.2.2.2 a v x = some ((), qc_u (qi_rr C.1 281 (qy_in (qy_st x) h (C.1 281) (C.2.2.1 282) a v).1) 280 5 (nI (h + 1)), C.2.1, qi_rr C.2.2.1 282 (qy_in (qy_st x) h (C.1 281) (C.2.2.1 282) a v).2, C.2.2.2) := by
    unfold fX3_insert
    have hl : nI h < (16 : Int32) := (qi_lt (b := 16) (by omega) (by decide)).mpr hh
    rw [h1, if_pos hl]
    have z := cx_ins (w := w) (I := C.1) (L := C.2.1) (D := C.2.2.1) (R := C.2.2.2) hx a v hv qcF h (C.1 281) (C.2.2.1 282) (by have := qy_F; omega) hh (fun k hk => by rw [(h4 k hk).2]; exact qy_all_P (qy_st x) (fun _ v => qf_N v) _ _ h (fun j hj => (h5 j hj).2) k hk)
    rw [qi_rr_0, qi_rr_0, h1, qi_s1] at z
    exact z
  have eM : fX12_hit w S.1 S.2.1 S.2.2.1 S.2.2.2 a v = some ((), qc_u (qc_u S.1 333 h a) 291 81 (nI (h + 1)), S.2.1, qc_u S.2.2.1 334 h v, S.2.2.2) := by
    unfold fX12_hit
    rw [qc_u_ne _ _ (Or.inl (show 291 ≠ 333 by decide)), h2, qi_inbN hh (by decide), qc_gdt, qc_gdt, nI_clamp (by omega), qi_s1]
  have r1 : ∀ k, qc_u (qc_u S.1 333 h a) 291 81 (nI (h + 1)) 333 k = qi_up (S.1 333) h a k := fun k => by rw [qc_u_ne _ _ (Or.inl (by decide)), qi_u_on]
  have r1' : qc_u (qc_u S.1 333 h a) 291 81 (nI (h + 1)) 333 = qi_up (S.1 333) h a := funext r1
  refine ⟨(_, _, _, _), (_, _, _, _), eX, eM, ⟨fun b k y z => ?_, rfl, fun b y => qi_rr_off _ _ y, rfl⟩, ⟨fun b k y z => ?_, rfl, fun b y => qc_u_off _ _ y, rfl⟩, ?_, ?_, by omega, fun k hk => ?_, fun k hk => ?_⟩
  · dsimp only
    rw [qc_u_ne _ _ (by omega), qi_rr_off _ _ y]
  · dsimp only
    rw [qc_u_ne _ _ (by omega), qc_u_ne _ _ (Or.inl y)]
  · dsimp only
    rw [qc_u_at]
  · dsimp only
    rw [qc_u_at]
  · dsimp only
    rw [r1', qi_u_on, qc_u_ne _ _ (Or.inl (show 281 ≠ 280 by decide)), qi_rr_on, qi_rr_on]
    show _ = (qy_in (qy_st x) h (qy_all (qy_st x) h (qi_up (S.1 333) h a) (qi_up (S.2.2.1 334) h v)).1 (qy_all (qy_st x) h (qi_up (S.1 333) h a) (qi_up (S.2.2.1 334) h v)).2 (qi_up (S.1 333) h a h) (qi_up (S.2.2.1 334) h v h)).1 k ∧ _ = (qy_in (qy_st x) h (qy_all (qy_st x) h (qi_up (S.1 333) h a) (qi_up (S.2.2.1 334) h v)).1 (qy_all (qy_st x) h (qi_up (S.1 333) h a) (qi_up (S.2.2.1 334) h v)).2 (qi_up (S.1 333) h a h) (qi_up (S.2.2.1 334) h v h)).2 k
    rw [qi_up_at, qi_up_at]
    refine qy_in_co (qy_st x) h _ _ _ _ a v (fun j hj => ?_) k (by omega)
    obtain ⟨c1, c2⟩ := qy_all_co (qy_st x) (S.1 333) (qi_up (S.1 333) h a) (S.2.2.1 334) (qi_up (S.2.2.1 334) h v) h (fun i hi => ⟨qi_up_ne _ _ (by omega), qi_up_ne _ _ (by omega)⟩) j hj
    obtain ⟨d1, d2⟩ := h4 j hj
    exact ⟨d1.trans c1.symm, d2.trans c2.symm⟩
  · dsimp only
    rw [r1', qi_u_on]
    by_cases q : k = h
    · subst q
      rw [qi_up_at, qi_up_at]
      exact ⟨ha, hv⟩
    · rw [qi_up_ne _ _ q, qi_up_ne _ _ q]
      exact h5 k (by omega)
end
