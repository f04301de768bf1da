/-! the constructor of a query, all of it -/
def qzC (I : qTI) (N c t s : Nat) : qTI := qj_cp (qj_cp I (c + 1) (N + 2) 0 t s) (c + 2) (N + 3) 0 t s
theorem qzC_off (I : qTI) {N c t s a : Nat} (h2 : a ≠ N + 2) (h3 : a ≠ N + 3) : qzC I N c t s a = I a := by
  unfold qzC
  rw [qj_cp_off _ _ _ _ h3, qj_cp_off _ _ _ _ h2]
theorem qzC_2 (I : qTI) (N c t s k : Nat) : qzC I N c t s (N + 2) k = if t ≤ k ∧ k < t + s then I (c + 1) (k - t) else I (N + 2) k := by
  unfold qzC
  rw [qj_cp_off _ _ _ _ (show N + 2 ≠ N + 3 by omega), qj_cp_on]
  unfold va_cpy
  rw [Nat.zero_add]
theorem qzC_3 (I : qTI) {N c : Nat} (t s k : Nat) (hc : c < N) : qzC I N c t s (N + 3) k = if t ≤ k ∧ k < t + s then I (c + 2) (k - t) else I (N + 3) k := by
  unfold qzC
  rw [qj_cp_on]
  unfold va_cpy
  rw [Nat.zero_add, qj_cp_off _ _ _ _ (show c + 2 ≠ N + 2 by omega), qj_cp_off _ _ _ _ (show N + 3 ≠ N + 2 by omega)]
/-- the new query, cell by cell -/
def qzP (I : qTI) (L : qTL) (D : qTD) (R : qTR) (N s0 s1 s2 nr : Nat) (M' : qcM) : Prop :=
  ((∀ a, a ≠ N → a ≠ N + 1 → a ≠ N + 2 → a ≠ N + 3 → M'.1 a = I a) ∧ M'.2.1 = L ∧ (∀ a, a ≠ N + 4 → M'.2.2.1 a = D a) ∧ (∀ a, a ≠ N → M'.2.2.2 a = R a)) ∧
  (M'.2.2.2 N 0 = N + 2 ∧ M'.2.2.2 N 1 = N + 3 ∧ M'.2.2.2 N 2 = N + 1 ∧ M'.2.2.2 N 3 = N + 4 ∧ M'.2.2.2 N 4 = R 267 7 ∧ M'.2.2.2 N 5 = R 267 8) ∧
  (M'.1 N 6 = I 267 9 ∧ M'.1 N 7 = I 267 10 ∧ M'.1 N 8 = I 267 11 ∧ M'.1 N 9 = I 267 12) ∧
  (M'.1 (N + 1) 0 = nI 0 ∧ M'.1 (N + 1) 1 = nI s0 ∧ M'.1 (N + 1) 2 = nI (s0 + s1) ∧ M'.1 (N + 1) 3 = nI (s0 + s1 + s2)) ∧
  ((∀ i, i < s0 → M'.1 (N + 2) i = I 271 i ∧ M'.1 (N + 3) i = I 272 i) ∧ (∀ i, i < s1 → M'.1 (N + 2) (s0 + i) = I 274 i ∧ M'.1 (N + 3) (s0 + i) = I 275 i) ∧ (∀ i, i < s2 → M'.1 (N + 2) (s0 + s1 + i) = I 277 i ∧ M'.1 (N + 3) (s0 + s1 + i) = I 278 i)) ∧
  (∀ i, i < nr → M'.2.2.1 (N + 4) i = D 279 i)
def qzW (kd ln : Nat → Nat) (N n nr : Nat) : qcW := qc_wn (qc_wn (qc_wn (qc_wn (N + 1, kd, ln) 100 4) 100 n) 100 n) 102 nr
section
variable {I : qTI} {L : qTL} {D : qTD} {R : qTR}
set_option maxRecDepth 100000 in
set_option maxHeartbeats 4000000 in
theorem qz_init {kd ln : Nat → Nat} {N s0 s1 s2 nr : Nat} (h338 : 338 ≤ N) (hk : qc_ki (N + 1, kd, ln) N 6) (hR : qc_FR R) (h0 : I 270 2 = nI s0) (h1 : I 273 2 = nI s1) (h2 : I 276 2 = nI s2) (l0 : s0 ≤ 200) (l1 : s1 ≤ 200) (l2 : s2 ≤ 200) (hnr : I 267 5 = nI nr) (lnr : nr < 100) (h7 : Nat.beq (R 267 7) 255 = false) (h8 : Nat.beq (R 267 8) 255 = false) :
    qc_V 2 4 1304 qmX7_init [.ref N, .ref 267] (N + 1, kd, ln) (I, L, D, R) (fun r w' M' => r = none ∧ w' = qzW kd ln N (s0 + s1 + s2) nr ∧ qzP I L D R N s0 s1 s2 nr M') := by
  have hNF : qcNF = 338 := rfl
  have hn : qcNF ≤ ((N + 1, kd, ln) : qcW).1 := by show 338 ≤ N + 1; omega
  obtain ⟨n, hnn⟩ : ∃ n, n = s0 + s1 + s2 := ⟨_, rfl⟩
  rw [← hnn]
  have nf : ∀ q ∈ qc_frL, ¬ q.1 = N := fun q hq e => by
    have : ∀ q ∈ qc_frL, q.1 < 338 := by decide
    have := this q hq
    omega
  refine qc_V.of rfl rfl (Nat.le_of_ble_eq_true rfl) (lv := [(0, .ref N), (1, .ref 267)]) rfl ?_
  refine qc_aload_n (qc_at qkX7_init 0 rfl) rfl <| qc_oI (qc_at qkX7_init 1 rfl) qo_7_3 (Nat.le_of_ble_eq_true rfl) (Nat.le_of_ble_eq_true rfl) <| qc_aload_n (qc_at qkX7_init 2 rfl) rfl <| qc_gR (qc_at qkX7_init 3 rfl) hn rfl (qfr_267_2 hR) rfl <| qc_astore_n (lv' := [(2, _), (0, _), (1, _)]) (qc_at qkX7_init 4 rfl) rfl rfl <| ?_
  refine qc_aload_n (qc_at qkX7_init 5 rfl) rfl <| qc_iconst (qc_at qkX7_init 6 rfl) <| qc_newI 4 (qc_at qkX7_init 7 rfl) rfl (by decide) (fun hf => absurd hf (by show ¬ N + 1 < qcNF; omega)) (Nat.le_of_ble_eq_true rfl) (Nat.le_of_ble_eq_true rfl) <| ?_
  obtain ⟨w1, hw1⟩ : ∃ w1, w1 = qc_wn (N + 1, kd, ln) 100 4 := ⟨_, rfl⟩
  obtain ⟨I1, hI1⟩ : ∃ I1, I1 = qc_z I (N + 1) 0 := ⟨_, rfl⟩
  have hn1 : qcNF ≤ w1.1 := by rw [hw1]; exact qz_n hn
  have hk1 : qc_ki w1 N 6 := by rw [hw1]; exact qz_ki hk
  have ha1 : qc_ka w1 (N + 1) 100 4 := by rw [hw1]; exact qz_kaN (by show 256 ≤ N + 1; omega)
  have hl1 : w1.1 = N + 2 := by rw [hw1]; rfl
  show qc_X _ _ _ _ _ (qc_wn (N + 1, kd, ln) 100 4) (13, [(2, .ref 269), (0, .ref N), (1, .ref 267)], [.ref (N + 1), .ref N], qc_z I (N + 1) 0, L, D, R)
  rw [← hw1, ← hI1]
  refine qc_pfR (qc_at qkX7_init 8 rfl) hk1 rfl rfl rfl (qc_beqF (by omega)) <| qc_iconst (qc_at qkX7_init 9 rfl) <| qc_istore_n (lv' := [(3, _), (2, _), (0, _), (1, _)]) (qc_at qkX7_init 10 rfl) rfl rfl <| qc_sub [2, 3, 1, 0] rfl <| ?_
  obtain ⟨R1, hR1⟩ : ∃ R1, R1 = qc_u R N 2 (N + 1) := ⟨_, rfl⟩
  have hFR1 : qc_FR R1 := fun q hq => by rw [hR1, qc_u_ne _ _ (Or.inl (nf q hq))]; exact hR q hq
  have r12 : R1 N 2 = N + 1 := by rw [hR1, qc_u_at]
  rw [← hR1]
  have i1 : ∀ a, a ≠ N + 1 → I1 a = I a := fun a ha => by rw [hI1, qc_z_off _ _ ha]
  have i1n : ∀ k, I1 (N + 1) k = 0 := fun k => by rw [hI1, qc_z_on]
  have kc : ∀ {w : qcW}, qcNF ≤ w.1 → qc_ki w 270 0 ∧ qc_ki w 273 0 ∧ qc_ki w 276 0 := fun {w} hn => ⟨qc_kf hn rfl, qc_kf hn rfl, qc_kf hn rfl⟩
  refine qz_it1 (j := 0) (c := 270) (t := 0) (s := s0) hn1 hk1 ha1 h338 r12 (qfr_269_0 hFR1) (kc hn1).1 (by decide) (i1n 0) (by rw [i1 270 (by omega)]; exact h0) ?_
  refine qz_it1 (j := 1) (c := 273) (t := s0) (s := s1) hn1 hk1 ha1 h338 r12 (qfr_269_1 hFR1) (kc hn1).2.1 (by decide) (by rw [Nat.zero_add, Nat.zero_add]; exact qc_u_at _ _ _ _) (by rw [qc_u_off _ _ (by omega), i1 273 (by omega)]; exact h1) ?_
  refine qz_it1 (j := 2) (c := 276) (t := s0 + s1) (s := s2) hn1 hk1 ha1 h338 r12 (qfr_269_2 hFR1) (kc hn1).2.2 (by decide) (qc_u_at _ _ _ _) (by rw [qc_u_off _ _ (by omega), qc_u_off _ _ (by omega), i1 276 (by omega)]; exact h2) ?_
  rw [Nat.zero_add s0, ← hnn]
  obtain ⟨I2, hI2⟩ : ∃ I2, I2 = qc_u (qc_u (qc_u I1 (N + 1) (0 + 1) (nI s0)) (N + 1) (1 + 1) (nI (s0 + s1))) (N + 1) (2 + 1) (nI n) := ⟨_, rfl⟩
  rw [← hI2]
  have i2 : ∀ a, a ≠ N + 1 → I2 a = I a := fun a ha => by rw [hI2, qc_u_off _ _ ha, qc_u_off _ _ ha, qc_u_off _ _ ha, i1 a ha]
  have i20 : I2 (N + 1) 0 = nI 0 := by rw [hI2, qc_u_ne _ _ (Or.inr (by decide)), qc_u_ne _ _ (Or.inr (by decide)), qc_u_ne _ _ (Or.inr (by decide))]; exact i1n 0
  have i21 : I2 (N + 1) 1 = nI s0 := by rw [hI2, qc_u_ne _ _ (Or.inr (by decide)), qc_u_ne _ _ (Or.inr (by decide))]; exact qc_u_at _ _ _ _
  have i22 : I2 (N + 1) 2 = nI (s0 + s1) := by rw [hI2, qc_u_ne _ _ (Or.inr (by decide))]; exact qc_u_at _ _ _ _
  have i23 : I2 (N + 1) 3 = nI n := by rw [hI2]; exact qc_u_at _ _ _ _
  -- out of the first loop, two rows
  have c3 : (nI 3).toNatClampNeg = 3 := nI_clamp (by decide)
  refine qc_iload_n (qc_at qkX7_init 11 rfl) rfl <| qc_iconst (qc_at qkX7_init 12 rfl) <| ?_
  refine qc_icmp_ge (qc_at qkX7_init 13 rfl) (fun hx => ?_) (fun hx => absurd (show (3 : Int32) ≤ nI (2 + 1) by decide) hx)
  refine qc_aload_n (qc_at qkX7_init 31 rfl) rfl <| qc_aload_n (qc_at qkX7_init 32 rfl) rfl <| qc_gRd (qc_at qkX7_init 33 rfl) hk1 rfl r12 (qc_beqF (by omega)) <| qc_iconst (qc_at qkX7_init 34 rfl) <| qc_ialdd (qc_at qkX7_init 35 rfl) ha1 (qz_in (j := 3) (by decide) (by decide)) <| ?_
  refine qc_newI n (qc_at qkX7_init 36 rfl) i23 (by omega) (fun hf => absurd hf (by omega)) (Nat.le_of_ble_eq_true rfl) (by show 0 + 4 + n ≤ 1304; omega) <| ?_
  obtain ⟨w2, hw2⟩ : ∃ w2, w2 = qc_wn w1 100 n := ⟨_, rfl⟩
  have hn2 : qcNF ≤ w2.1 := by rw [hw2]; exact qz_n hn1
  have hk2 : qc_ki w2 N 6 := by rw [hw2]; exact qz_ki hk1
  have ha2 : qc_ka w2 (N + 1) 100 4 := by rw [hw2]; exact qz_ka ha1
  have hb2 : qc_ka w2 (N + 2) 100 n := by rw [hw2, ← hl1]; exact qz_kaN (by omega)
  have hl2 : w2.1 = N + 3 := by rw [hw2]; show w1.1 + 1 = _; omega
  rw [← hw2, hl1]
  refine qc_pfR (qc_at qkX7_init 37 rfl) hk2 rfl rfl rfl (qc_beqF (by omega)) <| ?_
  obtain ⟨R2, hR2⟩ : ∃ R2, R2 = qc_u R1 N 0 (N + 2) := ⟨_, rfl⟩
  obtain ⟨I3, hI3⟩ : ∃ I3, I3 = qc_z I2 (N + 2) 0 := ⟨_, rfl⟩
  rw [← hR2, ← hI3]
  have r22 : R2 N 2 = N + 1 := by rw [hR2, qc_u_ne _ _ (Or.inr (by decide))]; exact r12
  have i33 : I3 (N + 1) (Int32.toNatClampNeg 3) = nI n := by rw [hI3, qc_z_off _ _ (by omega)]; exact i23
  refine qc_aload_n (qc_at qkX7_init 38 rfl) rfl <| qc_aload_n (qc_at qkX7_init 39 rfl) rfl <| qc_gRd (qc_at qkX7_init 40 rfl) hk2 rfl r22 (qc_beqF (by omega)) <| qc_iconst (qc_at qkX7_init 41 rfl) <| qc_ialdd (qc_at qkX7_init 42 rfl) ha2 (qz_in (j := 3) (by decide) (by decide)) <| ?_
  refine qc_newI n (qc_at qkX7_init 43 rfl) i33 (by omega) (fun hf => absurd hf (by omega)) (Nat.le_of_ble_eq_true rfl) (by show 0 + 4 + n + n ≤ 1304; omega) <| ?_
  obtain ⟨w3, hw3⟩ : ∃ w3, w3 = qc_wn w2 100 n := ⟨_, rfl⟩
  have hn3 : qcNF ≤ w3.1 := by rw [hw3]; exact qz_n hn2
  have hk3 : qc_ki w3 N 6 := by rw [hw3]; exact qz_ki hk2
  have ha3 : qc_ka w3 (N + 1) 100 4 := by rw [hw3]; exact qz_ka ha2
  have hb3 : qc_ka w3 (N + 2) 100 n := by rw [hw3]; exact qz_ka hb2
  have hc3 : qc_ka w3 (N + 3) 100 n := by rw [hw3, ← hl2]; exact qz_kaN (by omega)
  have hl3 : w3.1 = N + 4 := by rw [hw3]; show w2.1 + 1 = _; omega
  rw [← hw3, hl2]
  refine qc_pfR (qc_at qkX7_init 44 rfl) hk3 rfl rfl rfl (qc_beqF (by omega)) <| ?_
  obtain ⟨R3, hR3⟩ : ∃ R3, R3 = qc_u R2 N 1 (N + 3) := ⟨_, rfl⟩
  obtain ⟨I4, hI4⟩ : ∃ I4, I4 = qc_z I3 (N + 3) 0 := ⟨_, rfl⟩
  rw [← hR3, ← hI4]
  refine qc_iconst (qc_at qkX7_init 45 rfl) <| qc_istore_n (lv' := [(3, _), (0, _), (1, _), (2, _)]) (qc_at qkX7_init 46 rfl) rfl rfl <| qc_sub [1, 2, 3, 0] rfl <| ?_
  have r3 : ∀ a, a ≠ N → R3 a = R a := fun a ha => by rw [hR3, qc_u_off _ _ ha, hR2, qc_u_off _ _ ha, hR1, qc_u_off _ _ ha]
  have hFR3 : qc_FR R3 := fun q hq => by rw [r3 _ (nf q hq)]; exact hR q hq
  have r32 : R3 N 2 = N + 1 := by rw [hR3, qc_u_ne _ _ (Or.inr (by decide))]; exact r22
  have r30 : R3 N 0 = N + 2 := by rw [hR3, qc_u_ne _ _ (Or.inr (by decide)), hR2, qc_u_at]
  have r31 : R3 N 1 = N + 3 := by rw [hR3, qc_u_at]
  have i4 : ∀ a, a ≠ N + 1 → a ≠ N + 2 → a ≠ N + 3 → I4 a = I a := fun a a1 a2 a3 => by rw [hI4, qc_z_off _ _ a3, hI3, qc_z_off _ _ a2, i2 a a1]
  have i4n : I4 (N + 1) = I2 (N + 1) := by rw [hI4, qc_z_off _ _ (by omega), hI3, qc_z_off _ _ (by omega)]
  have o : ∀ (J : qTI) {c t s a : Nat}, a ≠ N + 2 → a ≠ N + 3 → qj_cp (qj_cp J (c + 1) (N + 2) 0 t s) (c + 2) (N + 3) 0 t s a = J a := fun J {c t s a} h2 h3 => qzC_off J h2 h3
  have hf : 1 ≤ (qc_rm 2 4 1304).frames ∧ 40 ≤ (qc_rm 2 4 1304).locals := ⟨Nat.le_of_ble_eq_true rfl, Nat.le_of_ble_eq_true rfl⟩
  refine qz_it2 (j := 0) (c := 270) (t := 0) (s := s0) (n := n) hn3 hk3 ha3 hb3 hc3 h338 r32 r30 r31 (qfr_269_0 hFR3) (kc hn3).1 (by decide) (qfr_270_0 hFR3) (qfr_270_1 hFR3) (by decide) (by rw [i4n]; exact i20) (by rw [i4 270 (by omega) (by omega) (by omega)]; exact h0) (by omega) l0 (by omega) hf ?_
  refine qz_it2 (j := 1) (c := 273) (t := s0) (s := s1) (n := n) hn3 hk3 ha3 hb3 hc3 h338 r32 r30 r31 (qfr_269_1 hFR3) (kc hn3).2.1 (by decide) (qfr_273_0 hFR3) (qfr_273_1 hFR3) (by decide) (by rw [o _ (by omega) (by omega), i4n]; exact i21) (by rw [o _ (by omega) (by omega), i4 273 (by omega) (by omega) (by omega)]; exact h1) (by omega) l1 (by omega) hf ?_
  refine qz_it2 (j := 2) (c := 276) (t := s0 + s1) (s := s2) (n := n) hn3 hk3 ha3 hb3 hc3 h338 r32 r30 r31 (qfr_269_2 hFR3) (kc hn3).2.2 (by decide) (qfr_276_0 hFR3) (qfr_276_1 hFR3) (by decide) (by rw [o _ (by omega) (by omega), o _ (by omega) (by omega), i4n]; exact i22) (by rw [o _ (by omega) (by omega), o _ (by omega) (by omega), i4 276 (by omega) (by omega) (by omega)]; exact h2) (by omega) l2 (by omega) hf ?_
  obtain ⟨I5, hI5⟩ : ∃ I5, I5 = qzC (qzC (qzC I4 N 270 0 s0) N 273 s0 s1) N 276 (s0 + s1) s2 := ⟨_, rfl⟩
  show qc_X _ _ _ _ _ w3 (76, [(0, .ref N), (1, .ref 267), (2, .ref 269), (3, .int (nI (2 + 1)))], [], qzC (qzC (qzC I4 N 270 0 s0) N 273 s0 s1) N 276 (s0 + s1) s2, L, D, R3)
  rw [← hI5]
  have i5 : ∀ a, a ≠ N + 2 → a ≠ N + 3 → I5 a = I4 a := fun a a2 a3 => by rw [hI5, qzC_off _ a2 a3, qzC_off _ a2 a3, qzC_off _ a2 a3]
  have i5' : ∀ a, a ≠ N + 1 → a ≠ N + 2 → a ≠ N + 3 → I5 a = I a := fun a a1 a2 a3 => by rw [i5 a a2 a3, i4 a a1 a2 a3]
  have s4 : ∀ a, a < N → I4 a = I a := fun a ha => i4 a (by omega) (by omega) (by omega)
  have q2 : (∀ i, i < s0 → I5 (N + 2) i = I 271 i ∧ I5 (N + 3) i = I 272 i) ∧ (∀ i, i < s1 → I5 (N + 2) (s0 + i) = I 274 i ∧ I5 (N + 3) (s0 + i) = I 275 i) ∧ (∀ i, i < s2 → I5 (N + 2) (s0 + s1 + i) = I 277 i ∧ I5 (N + 3) (s0 + s1 + i) = I 278 i) := by
    have e271 : ∀ (J : qTI) {c t s a : Nat}, a < N → qzC J N c t s a = J a := fun J {c t s a} h => qzC_off J (by omega) (by omega)
    refine ⟨fun i hi => ⟨?_, ?_⟩, fun i hi => ⟨?_, ?_⟩, fun i hi => ⟨?_, ?_⟩⟩
    · rw [hI5, qzC_2, if_neg (by omega), qzC_2, if_neg (by omega), qzC_2, if_pos (by omega), Nat.sub_zero, s4 _ (by omega)]
    · rw [hI5, qzC_3 _ _ _ _ (by omega), if_neg (by omega), qzC_3 _ _ _ _ (by omega), if_neg (by omega), qzC_3 _ _ _ _ (by omega), if_pos (by omega), Nat.sub_zero, s4 _ (by omega)]
    · rw [hI5, qzC_2, if_neg (by omega), qzC_2, if_pos (by omega), e271 _ (by omega), s4 _ (by omega), Nat.add_sub_cancel_left]
    · rw [hI5, qzC_3 _ _ _ _ (by omega), if_neg (by omega), qzC_3 _ _ _ _ (by omega), if_pos (by omega), e271 _ (by omega), s4 _ (by omega), Nat.add_sub_cancel_left]
    · rw [hI5, qzC_2, if_pos (by omega), e271 _ (by omega), e271 _ (by omega), s4 _ (by omega), Nat.add_sub_cancel_left]
    · rw [hI5, qzC_3 _ _ _ _ (by omega), if_pos (by omega), e271 _ (by omega), e271 _ (by omega), s4 _ (by omega), Nat.add_sub_cancel_left]
  -- out of the second loop
  refine qc_iload_n (qc_at qkX7_init 47 rfl) rfl <| qc_iconst (qc_at qkX7_init 48 rfl) <| ?_
  refine qc_icmp_ge (qc_at qkX7_init 49 rfl) (fun hx => ?_) (fun hx => absurd (show (3 : Int32) ≤ nI (2 + 1) by decide) hx)
  have e5 : I5 267 5 = nI nr := by rw [i5' 267 (by omega) (by omega) (by omega)]; exact hnr
  refine qc_aload_n (qc_at qkX7_init 84 rfl) rfl <| qc_aload_n (qc_at qkX7_init 85 rfl) rfl <| qc_gR (qc_at qkX7_init 86 rfl) hn3 rfl (qfr_267_3 hFR3) rfl <| qc_aload_n (qc_at qkX7_init 87 rfl) rfl <| qc_gI (qc_at qkX7_init 88 rfl) hn3 rfl <| ?_
  rw [e5]
  refine qc_cS (qc_at qkX7_init 89 rfl) ql_7_48 qfJ7_copyOf_65012 (qz_copyOf (I := I5) (L := L) (D := D) hn3 hFR3 lnr) rfl rfl (Nat.le_of_ble_eq_true rfl) ⟨Nat.le_of_ble_eq_true rfl, Nat.le_of_ble_eq_true rfl⟩ ⟨Nat.le_of_ble_eq_true rfl, by show 0 + 4 + n + n + nr ≤ 1304; omega⟩ (fun r w4 M4 hz => ?_)
  obtain ⟨rfl, hw4, rfl⟩ := hz
  rw [hl3] at *
  have hn4 : qcNF ≤ w4.1 := by rw [hw4]; exact qz_n hn3
  have hk4 : qc_ki w4 N 6 := by rw [hw4]; exact qz_ki hk3
  have g9 : ∀ k, I5 267 k = I 267 k := fun k => by rw [i5' 267 (by omega) (by omega) (by omega)]
  show qc_X _ _ _ _ _ w4 (151, [(0, .ref N), (1, .ref 267), (2, .ref 269), (3, .int (nI (2 + 1)))], [.ref (N + 4), .ref N], I5, L, qj_cp (qc_z D (N + 4) 0) 279 (N + 4) 0 0 nr, R3)
  refine qc_pfR (qc_at qkX7_init 90 rfl) hk4 rfl rfl rfl (qc_beqF (by omega)) <| ?_
  have p4 : ∀ {x : Nat}, qc_u R3 N 3 x 267 7 = R 267 7 := fun {x} => by rw [qc_u_off _ _ (by omega), r3 267 (by omega)]
  refine qc_aload_n (qc_at qkX7_init 91 rfl) rfl <| qc_aload_n (qc_at qkX7_init 92 rfl) rfl <| qc_gR (qc_at qkX7_init 93 rfl) hn4 rfl p4 h7 <| qc_pfR (qc_at qkX7_init 94 rfl) hk4 rfl rfl rfl h7 <| ?_
  have p5 : ∀ {x y : Nat}, qc_u (qc_u R3 N 3 x) N 4 y 267 8 = R 267 8 := fun {x y} => by rw [qc_u_off _ _ (by omega), qc_u_off _ _ (by omega), r3 267 (by omega)]
  refine qc_aload_n (qc_at qkX7_init 95 rfl) rfl <| qc_aload_n (qc_at qkX7_init 96 rfl) rfl <| qc_gR (qc_at qkX7_init 97 rfl) hn4 rfl p5 h8 <| qc_pfR (qc_at qkX7_init 98 rfl) hk4 rfl rfl rfl h8 <| ?_
  refine qc_aload_n (qc_at qkX7_init 99 rfl) rfl <| qc_aload_n (qc_at qkX7_init 100 rfl) rfl <| qc_gI (qc_at qkX7_init 101 rfl) hn4 rfl <| qc_pfI (qc_at qkX7_init 102 rfl) hk4 rfl rfl rfl <| ?_
  refine qc_aload_n (qc_at qkX7_init 103 rfl) rfl <| qc_aload_n (qc_at qkX7_init 104 rfl) rfl <| qc_gI (qc_at qkX7_init 105 rfl) hn4 rfl <| qc_pfI (qc_at qkX7_init 106 rfl) hk4 rfl rfl rfl <| ?_
  refine qc_aload_n (qc_at qkX7_init 107 rfl) rfl <| qc_aload_n (qc_at qkX7_init 108 rfl) rfl <| qc_gI (qc_at qkX7_init 109 rfl) hn4 rfl <| qc_pfI (qc_at qkX7_init 110 rfl) hk4 rfl rfl rfl <| ?_
  refine qc_aload_n (qc_at qkX7_init 111 rfl) rfl <| qc_aload_n (qc_at qkX7_init 112 rfl) rfl <| qc_gI (qc_at qkX7_init 113 rfl) hn4 rfl <| qc_pfI (qc_at qkX7_init 114 rfl) hk4 rfl rfl rfl <| ?_
  refine qc_vret (qc_at qkX7_init 115 rfl) rfl (Nat.le_of_ble_eq_true rfl) (by show 0 + 4 + n + n + nr ≤ 1304; omega) ⟨rfl, ?_, ?_⟩
  · rw [hw4, hw3, hw2, hw1]
    rfl
  have of : ∀ {J : qTI} {k : Nat} {x : Int32} {j : Nat}, qc_u J N k x 267 j = J 267 j := fun {J k x j} => qc_u_ne _ _ (Or.inl (by omega))
  refine ⟨⟨fun a a0 a1 a2 a3 => ?_, rfl, fun a a4 => ?_, fun a a0 => ?_⟩, ⟨?_, ?_, ?_, ?_, ?_, ?_⟩, ⟨?_, ?_, ?_, ?_⟩, ⟨?_, ?_, ?_, ?_⟩, ⟨?_, ?_, ?_⟩, fun i hi => ?_⟩
  · dsimp only
    rw [qc_u_off _ _ a0, qc_u_off _ _ a0, qc_u_off _ _ a0, qc_u_off _ _ a0, i5' a a1 a2 a3]
  · dsimp only
    rw [qj_cp_off _ _ _ _ a4, qc_z_off _ _ a4]
  · dsimp only
    rw [qc_u_off _ _ a0, qc_u_off _ _ a0, qc_u_off _ _ a0, r3 a a0]
  · dsimp only
    rw [qc_u_ne _ _ (Or.inr (by decide)), qc_u_ne _ _ (Or.inr (by decide)), qc_u_ne _ _ (Or.inr (by decide))]; exact r30
  · dsimp only
    rw [qc_u_ne _ _ (Or.inr (by decide)), qc_u_ne _ _ (Or.inr (by decide)), qc_u_ne _ _ (Or.inr (by decide))]; exact r31
  · dsimp only
    rw [qc_u_ne _ _ (Or.inr (by decide)), qc_u_ne _ _ (Or.inr (by decide)), qc_u_ne _ _ (Or.inr (by decide))]; exact r32
  · dsimp only
    rw [qc_u_ne _ _ (Or.inr (by decide)), qc_u_ne _ _ (Or.inr (by decide)), qc_u_at]
  · dsimp only
    rw [qc_u_ne _ _ (Or.inr (by decide)), qc_u_at]
  · dsimp only
    rw [qc_u_at]
  · dsimp only
    rw [qc_u_ne _ _ (Or.inr (by decide)), qc_u_ne _ _ (Or.inr (by decide)), qc_u_ne _ _ (Or.inr (by decide)), qc_u_at, g9]
  · dsimp only
    rw [qc_u_ne _ _ (Or.inr (by decide)), qc_u_ne _ _ (Or.inr (by decide)), qc_u_at, of, g9]
  · dsimp only
    rw [qc_u_ne _ _ (Or.inr (by decide)), qc_u_at, of, of, g9]
  · dsimp only
    rw [qc_u_at, of, of, of, g9]
  · dsimp only
    rw [qc_u_off _ _ (by omega), qc_u_off _ _ (by omega), qc_u_off _ _ (by omega), qc_u_off _ _ (by omega), i5 _ (by omega) (by omega), i4n]; exact i20
  · dsimp only
    rw [qc_u_off _ _ (by omega), qc_u_off _ _ (by omega), qc_u_off _ _ (by omega), qc_u_off _ _ (by omega), i5 _ (by omega) (by omega), i4n]; exact i21
  · dsimp only
    rw [qc_u_off _ _ (by omega), qc_u_off _ _ (by omega), qc_u_off _ _ (by omega), qc_u_off _ _ (by omega), i5 _ (by omega) (by omega), i4n]; exact i22
  · dsimp only
    rw [qc_u_off _ _ (by omega), qc_u_off _ _ (by omega), qc_u_off _ _ (by omega), qc_u_off _ _ (by omega), i5 _ (by omega) (by omega), i4n, ← hnn]; exact i23
  · dsimp only
    rw [qc_u_off _ _ (show N + 2 ≠ N by omega), qc_u_off _ _ (show N + 2 ≠ N by omega), qc_u_off _ _ (show N + 2 ≠ N by omega), qc_u_off _ _ (show N + 2 ≠ N by omega), qc_u_off _ _ (show N + 3 ≠ N by omega), qc_u_off _ _ (show N + 3 ≠ N by omega), qc_u_off _ _ (show N + 3 ≠ N by omega), qc_u_off _ _ (show N + 3 ≠ N by omega)]
    exact q2.1
  · dsimp only
    rw [qc_u_off _ _ (show N + 2 ≠ N by omega), qc_u_off _ _ (show N + 2 ≠ N by omega), qc_u_off _ _ (show N + 2 ≠ N by omega), qc_u_off _ _ (show N + 2 ≠ N by omega), qc_u_off _ _ (show N + 3 ≠ N by omega), qc_u_off _ _ (show N + 3 ≠ N by omega), qc_u_off _ _ (show N + 3 ≠ N by omega), qc_u_off _ _ (show N + 3 ≠ N by omega)]
    exact q2.2.1
  · dsimp only
    rw [qc_u_off _ _ (show N + 2 ≠ N by omega), qc_u_off _ _ (show N + 2 ≠ N by omega), qc_u_off _ _ (show N + 2 ≠ N by omega), qc_u_off _ _ (show N + 2 ≠ N by omega), qc_u_off _ _ (show N + 3 ≠ N by omega), qc_u_off _ _ (show N + 3 ≠ N by omega), qc_u_off _ _ (show N + 3 ≠ N by omega), qc_u_off _ _ (show N + 3 ≠ N by omega)]
    exact q2.2.2
  · dsimp only
    rw [qj_cp_on]
    unfold va_cpy
    rw [if_pos (by omega), qc_z_off _ _ (by omega), Nat.zero_add, Nat.sub_zero]
end
