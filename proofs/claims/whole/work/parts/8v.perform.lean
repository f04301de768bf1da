/-! one part of a query, performed -/
def qx_fc (C C' : qcM) : Prop := (∀ a k, ¬ (a = 287 ∧ k = 2) → ¬ (a = 286 ∧ k = 5) → ¬ (a = 280 ∧ 1 ≤ k ∧ k ≤ 5) → C'.1 a k = C.1 a k) ∧ (∀ a, a ≠ 288 → a ≠ 261 → C'.2.1 a = C.2.1 a) ∧ (∀ a, a ≠ 289 → a ≠ 262 → C'.2.2.1 a = C.2.2.1 a) ∧ C'.2.2.2 = C.2.2.2
def qx_fs (S S' : qcM) : Prop := (∀ a k, ¬ (a = 291 ∧ (k = 67 ∨ k = 68 ∨ k = 69 ∨ k = 73 ∨ k = 79 ∨ k = 80)) → a ≠ 330 → S'.1 a k = S.1 a k) ∧ (∀ a k, a ≠ 328 → a ≠ 331 → a ≠ 295 → ¬ (a = 291 ∧ k = 70) → S'.2.1 a k = S.2.1 a k) ∧ (∀ a, a ≠ 329 → a ≠ 332 → a ≠ 296 → S'.2.2.1 a = S.2.2.1 a) ∧ S'.2.2.2 = S.2.2.2
theorem qx_fc_tr {A B C : qcM} (h : qx_fc A B) (g : qx_fc B C) : qx_fc A C := ⟨fun a k x y z => (g.1 a k x y z).trans (h.1 a k x y z), fun a x y => (g.2.1 a x y).trans (h.2.1 a x y), fun a x y => (g.2.2.1 a x y).trans (h.2.2.1 a x y), g.2.2.2.trans h.2.2.2⟩
theorem qx_fs_tr {A B C : qcM} (h : qx_fs A B) (g : qx_fs B C) : qx_fs A C := ⟨fun a k x y => (g.1 a k x y).trans (h.1 a k x y), fun a k x y z v => (g.2.1 a k x y z v).trans (h.2.1 a k x y z v), fun a x y z => (g.2.2.1 a x y z).trans (h.2.2.1 a x y z), g.2.2.2.trans h.2.2.2⟩
/-- the code of a part: with the class, and with the reference -/
def qx_cd (w : qcW) (p q n : Nat) (op ar : Nat → Int32) (C S : qcM) : Prop :=
  (qc_io w (C.2.2.2 286 3) 6 = true ∧ qc_ia w (C.2.2.2 (C.2.2.2 286 3) 0) 100 = true ∧ 338 ≤ C.2.2.2 (C.2.2.2 286 3) 0 ∧ qc_ia w (C.2.2.2 (C.2.2.2 286 3) 1) 100 = true ∧ 338 ≤ C.2.2.2 (C.2.2.2 286 3) 1 ∧ qc_ia w (C.2.2.2 (C.2.2.2 286 3) 2) 100 = true ∧ 338 ≤ C.2.2.2 (C.2.2.2 286 3) 2 ∧ w.2.2 (C.2.2.2 (C.2.2.2 286 3) 2) = 4) ∧
  ∃ b0 : Nat, b0 + n ≤ 600 ∧ b0 + n ≤ w.2.2 (C.2.2.2 (C.2.2.2 286 3) 0) ∧ b0 + n ≤ w.2.2 (C.2.2.2 (C.2.2.2 286 3) 1) ∧ w.2.2 (C.2.2.2 (C.2.2.2 286 3) 0) ≤ 600 ∧ w.2.2 (C.2.2.2 (C.2.2.2 286 3) 1) ≤ 600 ∧
    C.1 (C.2.2.2 (C.2.2.2 286 3) 2) p = nI b0 ∧ C.1 (C.2.2.2 (C.2.2.2 286 3) 2) (p + 1) = nI (b0 + n) ∧
    (∀ i, i < n → C.1 (C.2.2.2 (C.2.2.2 286 3) 0) (b0 + i) = op i ∧ C.1 (C.2.2.2 (C.2.2.2 286 3) 1) (b0 + i) = ar i ∧ S.1 315 (600 * q + 200 * p + i) = op i ∧ S.1 316 (600 * q + 200 * p + i) = ar i) ∧ S.1 317 (3 * q + p) = nI n
theorem qx_cd_co {w : qcW} {p q n : Nat} {op ar : Nat → Int32} {C S C' S' : qcM} (h : qx_cd w p q n op ar C S) (hI : ∀ a k, 338 ≤ a → C'.1 a k = C.1 a k) (hR : C'.2.2.2 = C.2.2.2) (hS : ∀ a k, 315 ≤ a → a ≤ 317 → S'.1 a k = S.1 a k) : qx_cd w p q n op ar C' S' := by
  unfold qx_cd at h ⊢
  rw [hR]
  obtain ⟨h1, b0, h2, h3, h4, h5, h6, h7, h8, h9, h10⟩ := h
  refine ⟨h1, b0, h2, h3, h4, h5, h6, ?_, ?_, fun i hi => ?_, ?_⟩
  · rw [hI _ _ h1.2.2.2.2.2.2.1, h7]
  · rw [hI _ _ h1.2.2.2.2.2.2.1, h8]
  · obtain ⟨g1, g2, g3, g4⟩ := h9 i hi
    rw [hI _ _ h1.2.2.1, hI _ _ h1.2.2.2.2.1, hS _ _ (by decide) (by decide), hS _ _ (by decide) (by decide)]
    exact ⟨g1, g2, g3, g4⟩
  · rw [hS _ _ (by decide) (by decide), h10]
theorem qx_re_co {w : qcW} {nr q : Nat} {C S C' S' : qcM} (h : qx_re w nr q C S) (hD : ∀ a, 338 ≤ a → C'.2.2.1 a = C.2.2.1 a) (hR : C'.2.2.2 = C.2.2.2) (h4 : C'.1 286 4 = C.1 286 4) (h71 : S'.1 291 71 = S.1 291 71) (h72 : S'.1 291 72 = S.1 291 72) (h305 : S'.2.2.1 305 = S.2.2.1 305) : qx_re w nr q C' S' := by
  unfold qx_re at h ⊢
  rw [hR, hD _ h.2.2.1, h4, h71, h72, h305]
  exact h
/-- what a part leaves -/
def qx_E (L0 : Nat → Int64) (D0 : Nat → UInt64) (L1 : Nat → Int64) (D1 : Nat → UInt64) (rc : Int32) (m i n : Nat) (op : Nat → Int32) (res : List Nat) (C S : qcM) (b : Bool) (C' S' : qcM) : Prop :=
  qx_fc C C' ∧ qx_fs S S' ∧ qx_N S' ∧ (∃ m', qx_W L0 D0 L1 D1 rc m' C' S' ∧ (m' = m ∨ (m' = m + 1 ∧ i < n ∧ ∃ k l, k < n ∧ l < 8 ∧ op k = nI (20 + l)))) ∧ C'.1 280 4 = (S'.2.1 291 70).toInt32 ∧
  (b = true → S'.1 291 69 = 0 ∧ (C'.1 280 1 = C.1 280 1 ∧ C'.1 280 2 = C.1 280 2 ∧ C'.1 280 3 = C.1 280 3 ∧ C'.1 280 5 = C.1 280 5) ∧ (S'.1 291 79 = S.1 291 79 ∧ S'.1 291 80 = S.1 291 80) ∧ qx_pl res C' S') ∧
  (b = false → C'.1 280 1 = S'.1 291 69 ∧ C'.1 280 2 = S'.1 291 79 ∧ C'.1 280 3 = S'.1 291 80 ∧ C'.1 280 5 = 0)
section
variable {w : qcW} {I : qTI} {L : qTL} {D : qTD} {R : qTR}
theorem fx_op {x p b i : Nat} (h0 : qc_io w x 6 = true) (h1 : qc_ia w (R x 0) 100 = true) (h2 : qc_ia w (R x 2) 100 = true) (h3 : w.2.2 (R x 2) = 4) (hp : p < 3) (hb : I (R x 2) p = nI b) (hi : b + i < w.2.2 (R x 0)) (hn : w.2.2 (R x 0) ≤ 600) : fX7_op w I L D R x (nI p) (nI i) = some (I (R x 0) (b + i), I, L, D, R) := by
  unfold fX7_op
  rw [h0, qc_gdt, h1, qc_gdt, h2, qc_gdt, h3, qi_inbN (by omega) (by decide), qc_gdt, nI_clamp (by omega), hb, nI_add, qi_inbN hi (by omega), qc_gdt, nI_clamp (by omega)]
theorem fx_number {x p b i : Nat} (h0 : qc_io w x 6 = true) (h1 : qc_ia w (R x 1) 100 = true) (h2 : qc_ia w (R x 2) 100 = true) (h3 : w.2.2 (R x 2) = 4) (hp : p < 3) (hb : I (R x 2) p = nI b) (hi : b + i < w.2.2 (R x 1)) (hn : w.2.2 (R x 1) ≤ 600) : fX7_number w I L D R x (nI p) (nI i) = some (I (R x 1) (b + i), I, L, D, R) := by
  unfold fX7_number
  rw [h0, qc_gdt, h1, qc_gdt, h2, qc_gdt, h3, qi_inbN (by omega) (by decide), qc_gdt, nI_clamp (by omega), hb, nI_add, qi_inbN hi (by omega), qc_gdt, nI_clamp (by omega)]
theorem fx_size {x p b n : Nat} (h0 : qc_io w x 6 = true) (h2 : qc_ia w (R x 2) 100 = true) (h3 : w.2.2 (R x 2) = 4) (hp : p < 3) (hb : I (R x 2) p = nI b) (hn : I (R x 2) (p + 1) = nI (b + n)) : fX7_size w I L D R x (nI p) = some (nI n, I, L, D, R) := by
  unfold fX7_size
  rw [h0, qc_gdt, h2, qc_gdt, h3, qi_s1, qi_inbN (by omega) (by decide), qc_gdt, qc_gdt, qi_inbN (by omega) (by decide), qc_gdt, nI_clamp (by omega), nI_clamp (by omega), hb, hn, qi_sub (by omega), Nat.add_sub_cancel_left]
end
section
variable {w : qcW} {L0 : Nat → Int64} {D0 : Nat → UInt64} {L1 : Nat → Int64} {D1 : Nat → UInt64} {rc : Int32} {nr p q n : Nat} {op ar : Nat → Int32} {H : Nat → List Nat}
theorem qx_loop (hp : p < 3) (hn : n ≤ 200) (hH : ∀ i, i ≤ n → (H i).length ≤ 24) (hat : ∀ i, i < n → qw_at nr n op ar H i) (hsto : ∀ k l, k < n → l < 8 → op k = nI (20 + l) → k + 1 = n) : ∀ (N i j m : Nat) (C S : qcM), n < N + i → j ≤ i → i ≤ n → qx_cd w p q n op ar C S → qx_re w nr q C S → qx_N S → S.1 291 69 = 0 → qx_W L0 D0 L1 D1 rc m C S → (i < n → ∀ k l, k < n → l < 8 → op k = nI (20 + l) → m < 16 ∧ ∃ c, c < 10 ∧ ar k = nI c ∧ C.1 258 c = rc) → qx_pl (H i) C S → C.1 286 5 = nI i → S.1 291 68 = nI i → C.1 280 4 = (S.2.1 291 70).toInt32 →
    ∃ (b : Bool) (C' S' : qcM), fX4_perform_l23 w N (C.1, C.2.1, C.2.2.1, C.2.2.2, nI p, nI n, nI j) = some (b, C') ∧ fX12_works_l39 w N (S.1, S.2.1, S.2.2.1, S.2.2.2, nI p, nI n, nI (600 * q + 200 * p)) = some (b, S') ∧ qx_E L0 D0 L1 D1 rc m i n op (H n) C S b C' S'
  | 0, i, j, m, C, S, h1, h2, h3, _, _, _, _, _, _, _, _, _, _ => by omega
  | N + 1, i, j, m, C, S, h1, h2, h3, hcd, hre, hN, h69, hW, hms, hP, hc5, hs8, h4 => by
    rw [fX4_perform_l23_s, fX12_works_l39_s]
    unfold fX4_perform_b23 fX12_works_b39
    by_cases hin : i = n
    · subst hin
      have q1 : nI i ≤ C.1 286 5 := by rw [hc5]; exact Int32.le_refl _
      have q2 : nI i ≤ S.1 291 68 := by rw [hs8]; exact Int32.le_refl _
      refine ⟨true, C, S, ?_, ?_, ⟨fun _ _ _ _ _ => rfl, fun _ _ _ => rfl, fun _ _ _ => rfl, rfl⟩, ⟨fun _ _ _ _ => rfl, fun _ _ _ _ _ _ => rfl, fun _ _ _ _ => rfl, rfl⟩, hN, ⟨m, hW, Or.inl rfl⟩, h4, fun _ => ⟨h69, ⟨rfl, rfl, rfl, rfl⟩, ⟨rfl, rfl⟩, hP⟩, fun z => by cases z⟩
      · rw [if_pos q1]
        split <;> rfl
      · rw [if_pos q2]
    · have hlt : i < n := by omega
      have q1 : ¬ nI n ≤ nI j := fun z => by have := (qi_le (by omega) (by omega)).mp z; omega
      have q2 : ¬ nI n ≤ nI i := fun z => by have := (qi_le (by omega) (by omega)).mp z; omega
      have hcd0 := hcd
      obtain ⟨⟨k1, k2, k3, k4, k5, k6, k7, k8⟩, b0, k9, k10, k11, k12, k13, k14, k15, k16, k17⟩ := hcd
      obtain ⟨o1, o2, o3, o4⟩ := k16 i hlt
      have hq : q < 12 := hre.2.2.2.2.2.1
      have n1 : ∀ a, 338 ≤ a → qc_u C.1 286 5 (nI (i + 1)) a = C.1 a := fun a ha => qc_u_off _ _ (by omega)
      have n2 : ∀ a k, a ≠ 286 → qc_u C.1 286 5 (nI (i + 1)) a k = C.1 a k := fun a k ha => qc_u_ne _ _ (Or.inl ha)
      have n3 : ∀ k, k ≠ 68 → qc_u S.1 291 68 (nI (i + 1)) 291 k = S.1 291 k := fun k hk => qc_u_ne _ _ (Or.inr hk)
      have n4 : ∀ k, k ≠ 5 → qc_u C.1 286 5 (nI (i + 1)) 286 k = C.1 286 k := fun k hk => qc_u_ne _ _ (Or.inr hk)
      have n5 : ∀ a, a ≠ 291 → qc_u S.1 291 68 (nI (i + 1)) a = S.1 a := fun a ha => qc_u_off _ _ ha
      have n6 : ∀ a, a ≠ 286 → qc_u C.1 286 5 (nI (i + 1)) a = C.1 a := fun a ha => qc_u_off _ _ ha
      have eO : fX7_op w (qc_u C.1 286 5 (nI (i + 1))) C.2.1 C.2.2.1 C.2.2.2 (C.2.2.2 286 3) (nI p) (nI i) = some (op i, qc_u C.1 286 5 (nI (i + 1)), C.2.1, C.2.2.1, C.2.2.2) := by
        rw [fx_op k1 k2 k6 k8 hp (by rw [n1 _ k7]; exact k14) (by omega) k12, n1 _ k3, o1]
      have eA : fX7_number w (qc_u C.1 286 5 (nI (i + 1))) C.2.1 C.2.2.1 C.2.2.2 (C.2.2.2 286 3) (nI p) (nI i) = some (ar i, qc_u C.1 286 5 (nI (i + 1)), C.2.1, C.2.2.1, C.2.2.2) := by
        rw [fx_number k1 k4 k6 k8 hp (by rw [n1 _ k7]; exact k14) (by omega) k13, n1 _ k5, o2]
      rw [if_neg q1, hc5, if_neg q2, k1, qc_gdt, qi_s1, eO, qc_bds, k1, qc_gdt, eA, qc_bds]
      rw [hs8, if_neg q2, nI_add, qi_inbN (show 600 * q + 200 * p + i < 7200 by omega) (by decide), qc_gdt, qc_gdt, nI_clamp (show 600 * q + 200 * p + i < 2 ^ 31 by omega), qi_s1 i, qc_u_off _ _ (show 315 ≠ 291 by decide), qc_u_off _ _ (show 316 ≠ 291 by decide), o3, o4]
      obtain ⟨f, ⟨I2, L2, D2, R2⟩, ⟨I3, L3, D3, R3⟩, m2, i2, e1, e2, e3, e4, ⟨c1, c2, c3, c4⟩, ⟨s1, s2, s3, s4⟩, e7, e8, e9, e10⟩ := qx_act (w := w) (C := (qc_u C.1 286 5 (nI (i + 1)), C.2.1, C.2.2.1, C.2.2.2)) (S := (qc_u S.1 291 68 (nI (i + 1)), S.2.1, S.2.2.1, S.2.2.2)) (L0 := L0) (D0 := D0) (L1 := L1) (D1 := D1) (rc := rc) (m := m) (q := q) (hat i hlt) hlt hn hH
        (qx_re_co hre (fun _ _ => rfl) rfl (n4 4 (by decide)) (n3 71 (by decide)) (n3 72 (by decide)) rfl)
        hN ((n3 69 (by decide)).trans h69)
        (qx_W_co hW (n6 258 (by decide)) (n6 259 (by decide)) (n6 260 (by decide)) rfl rfl (n5 292 (by decide)) (n5 293 (by decide)) (n5 294 (by decide)) rfl rfl (n5 330 (by decide)) rfl rfl (n3 73 (by decide)))
        (fun l hl ho => by
          obtain ⟨z1, c, z2, z3, z4⟩ := hms hlt i l hlt hl ho
          exact ⟨hsto i l hlt hl ho, z1, c, z2, z3, (n2 258 c (by decide)).trans z4⟩)
        ⟨(n2 287 2 (by decide)).trans hP.1, (n3 67 (by decide)).trans hP.2.1, hP.2.2⟩ (qc_u_at C.1 286 5 _) (qc_u_at S.1 291 68 _)
      dsimp only at e1 e2 e3 c1 c2 c3 c4 s1 s2 s3 s4 e7
      subst c4 s4
      have d1 : ∀ a k, ¬ (a = 287 ∧ k = 2) → ¬ (a = 286 ∧ k = 5) → I2 a k = C.1 a k := fun a k x y => (c1 a k x y).trans (qc_u_ne _ _ (by omega))
      have d2 : ∀ a k, ¬ (a = 291 ∧ (k = 67 ∨ k = 68 ∨ k = 69 ∨ k = 73)) → a ≠ 330 → I3 a k = S.1 a k := fun a k x y => (s1 a k x y).trans (qc_u_ne _ _ (by omega))
      rw [e1, e2, qc_bds, qc_bds, e3]
      by_cases hf : f = 0
      · subst hf
        obtain ⟨j1, j2, j3, j4, j5, j6, j7⟩ := e10 rfl
        dsimp only at j3 j4 j5 j6 j7
        rw [if_pos rfl, if_pos (Int32.le_refl _), qi_s1]
        have u1 : ∀ a k, (a ≠ 280 ∨ k ≠ 4) → qc_u I2 280 4 (I2 280 4 + 1) a k = I2 a k := fun a k h => qc_u_ne _ _ h
        have hr1 : ∀ a, a ≠ 280 → qc_u I2 280 4 (I2 280 4 + 1) a = I2 a := fun a h => qc_u_off _ _ h
        have hr2 : ∀ a, a ≠ 291 → qc_u L3 291 70 (L3 291 70 + 1) a = L3 a := fun a h => qc_u_off _ _ h
        obtain ⟨b, C', S', g1, g2, g3, g4, g5, ⟨m', g6, g7⟩, g8, g9, g10⟩ := qx_loop hp hn hH hat hsto N i2 (j + 1) m2 (qc_u I2 280 4 (I2 280 4 + 1), L2, D2, C.2.2.2) (I3, qc_u L3 291 70 (L3 291 70 + 1), D3, S.2.2.2) (by omega) (by omega) j2
          (qx_cd_co hcd0 (fun a k ha => (u1 a k (by omega)).trans (d1 a k (by omega) (by omega))) rfl (fun a k x y => d2 a k (by omega) (by omega)))
          (qx_re_co hre (fun a ha => c3 a (by omega) (by omega)) rfl ((u1 286 4 (by omega)).trans (d1 286 4 (by omega) (by omega))) (d2 291 71 (by omega) (by omega)) (d2 291 72 (by omega) (by omega)) (s3 305 (by decide) (by decide) (by decide)))
          e7 e3
          (qx_W_co e8 (hr1 258 (by decide)) (hr1 259 (by decide)) (hr1 260 (by decide)) rfl rfl rfl rfl rfl (hr2 295 (by decide)) rfl rfl (hr2 331 (by decide)) rfl rfl)
          (fun hi2 k l hk hl ho => by
            obtain ⟨z1, c, z2, z3, z4⟩ := hms hlt k l hk hl ho
            refine ⟨?_, c, z2, z3, ?_⟩
            · rcases e9 with z | ⟨z, z', _⟩
              · rw [z]; exact z1
              · omega
            · exact (u1 258 c (by omega)).trans ((d1 258 c (by omega) (by omega)).trans z4))
          ⟨(u1 287 2 (by omega)).trans j5, j6, by
            show qp_R (H i2) (L2 288) (D2 289) (qc_u L3 291 70 (L3 291 70 + 1) 328) (D3 329)
            rw [hr2 328 (by decide)]
            exact j7⟩
          ((u1 286 5 (by omega)).trans j3) j4
          (by
            show qc_u I2 280 4 (I2 280 4 + 1) 280 4 = (qc_u L3 291 70 (L3 291 70 + 1) 291 70).toInt32
            rw [qc_u_at, qc_u_at, Int64.toInt32_add, d1 280 4 (by omega) (by omega), h4, s2 291 (by decide) (by decide) (by decide)]
            rfl)
        refine ⟨b, C', S', g1, g2, ?_, ?_, g5, ⟨m', g6, ?_⟩, g8, fun hb => ?_, g10⟩
        · have hx : qx_fc C (qc_u I2 280 4 (I2 280 4 + 1), L2, D2, C.2.2.2) := ⟨fun a k x y z => (u1 a k (by omega)).trans (d1 a k x y), fun a x y => c2 a x y, fun a x y => c3 a x y, rfl⟩
          exact qx_fc_tr hx g3
        · have hx : qx_fs S (I3, qc_u L3 291 70 (L3 291 70 + 1), D3, S.2.2.2) := ⟨fun a k x y => d2 a k (by omega) y, fun a k x y z v => (qc_u_ne _ _ (by omega)).trans (congrFun (s2 a x y z) k), fun a x y z => s3 a x y z, rfl⟩
          exact qx_fs_tr hx g4
        · rcases e9 with z | ⟨z, z', l, z2, z3⟩
          · rw [z] at g7
            rcases g7 with g7 | ⟨g7, _, g⟩
            · exact Or.inl g7
            · exact Or.inr ⟨g7, hlt, g⟩
          · rcases g7 with g7 | ⟨g7, g, _⟩
            · exact Or.inr ⟨by omega, hlt, i, l, hlt, z2, z3⟩
            · omega
        · obtain ⟨x1, ⟨x2, x3, x4, x5⟩, ⟨x6, x7⟩, x8⟩ := g9 hb
          refine ⟨x1, ⟨x2.trans ?_, x3.trans ?_, x4.trans ?_, x5.trans ?_⟩, ⟨x6.trans (d2 291 79 (by omega) (by omega)), x7.trans (d2 291 80 (by omega) (by omega))⟩, x8⟩
          · exact (u1 280 1 (by omega)).trans (d1 280 1 (by omega) (by omega))
          · exact (u1 280 2 (by omega)).trans (d1 280 2 (by omega) (by omega))
          · exact (u1 280 3 (by omega)).trans (d1 280 3 (by omega) (by omega))
          · exact (u1 280 5 (by omega)).trans (d1 280 5 (by omega) (by omega))
      · have hf2 : ¬ f ≤ 0 := fun z => hf (Int32.toInt_inj.mp (by have := Int32.le_iff_toInt_le.mp z; have h0 : (0 : Int32).toInt = 0 := rfl; omega))
        rw [if_neg hf, if_neg hf2]
        unfold fX3_fail
        rw [qc_bds]
        have v1 : ∀ a k, ¬ (a = 280 ∧ 1 ≤ k ∧ k ≤ 5 ∧ k ≠ 4) → qc_u (qc_u (qc_u (qc_u I2 280 1 f) 280 2 (nI p)) 280 3 (nI i)) 280 5 0 a k = I2 a k := fun a k h => by rw [qc_u_ne _ _ (by omega), qc_u_ne _ _ (by omega), qc_u_ne _ _ (by omega), qc_u_ne _ _ (by omega)]
        have v2 : ∀ a, a ≠ 280 → qc_u (qc_u (qc_u (qc_u I2 280 1 f) 280 2 (nI p)) 280 3 (nI i)) 280 5 0 a = I2 a := fun a h => funext fun k => v1 a k (by omega)
        have v3 : ∀ a k, ¬ (a = 291 ∧ (k = 79 ∨ k = 80)) → qc_u (qc_u I3 291 79 (nI p)) 291 80 (nI i) a k = I3 a k := fun a k h => by rw [qc_u_ne _ _ (by omega), qc_u_ne _ _ (by omega)]
        have v4 : ∀ a, a ≠ 291 → qc_u (qc_u I3 291 79 (nI p)) 291 80 (nI i) a = I3 a := fun a h => funext fun k => v3 a k (by omega)
        refine ⟨false, (_, _, _, _), (_, _, _, _), rfl, rfl, ⟨fun a k x y z => (v1 a k (by omega)).trans (d1 a k x y), fun a x y => c2 a x y, fun a x y => c3 a x y, rfl⟩, ⟨fun a k x y => (v3 a k (by omega)).trans (d2 a k (by omega) y), fun a k x y z v => congrFun (s2 a x y z) k, fun a x y z => s3 a x y z, rfl⟩, e7, ⟨m2, ?_, ?_⟩, ?_, (fun z => by cases z), fun _ => ⟨?_, ?_, ?_, ?_⟩⟩
        · exact qx_W_co e8 (v2 258 (by decide)) (v2 259 (by decide)) (v2 260 (by decide)) rfl rfl (v4 292 (by decide)) (v4 293 (by decide)) (v4 294 (by decide)) rfl rfl (v4 330 (by decide)) rfl rfl (v3 291 73 (by omega))
        · rcases e9 with z | ⟨z, z', l, z2, z3⟩
          · exact Or.inl z
          · exact Or.inr ⟨z, hlt, i, l, hlt, z2, z3⟩
        · show qc_u (qc_u (qc_u (qc_u I2 280 1 f) 280 2 (nI p)) 280 3 (nI i)) 280 5 0 280 4 = (L3 291 70).toInt32
          rw [v1 280 4 (by omega), d1 280 4 (by omega) (by omega), h4, s2 291 (by decide) (by decide) (by decide)]
        · show qc_u (qc_u (qc_u (qc_u I2 280 1 f) 280 2 (nI p)) 280 3 (nI i)) 280 5 0 280 1 = qc_u (qc_u I3 291 79 (nI p)) 291 80 (nI i) 291 69
          rw [v3 291 69 (by omega), e3, qc_u_ne _ _ (Or.inr (by decide)), qc_u_ne _ _ (Or.inr (by decide)), qc_u_ne _ _ (Or.inr (by decide)), qc_u_at]
        · show qc_u (qc_u (qc_u (qc_u I2 280 1 f) 280 2 (nI p)) 280 3 (nI i)) 280 5 0 280 2 = qc_u (qc_u I3 291 79 (nI p)) 291 80 (nI i) 291 79
          rw [qc_u_ne _ _ (Or.inr (by decide)), qc_u_ne _ _ (Or.inr (by decide)), qc_u_at, qc_u_ne _ _ (Or.inr (by decide)), qc_u_at]
        · show qc_u (qc_u (qc_u (qc_u I2 280 1 f) 280 2 (nI p)) 280 3 (nI i)) 280 5 0 280 3 = qc_u (qc_u I3 291 79 (nI p)) 291 80 (nI i) 291 80
          rw [qc_u_ne _ _ (Or.inr (by decide)), qc_u_at, qc_u_at]
        · show qc_u (qc_u (qc_u (qc_u I2 280 1 f) 280 2 (nI p)) 280 3 (nI i)) 280 5 0 280 5 = 0
          rw [qc_u_at]
theorem qx_F200 {n : Nat} (h : n ≤ 200) : n < qcF + 0 := by unfold qcF; omega
/-- a part performed by both -/
theorem qx_perform {res : List Nat} {m : Nat} {C S : qcM} (hp : p < 3) (hwf : n = 0 ∧ res = [] ∨ qw_wf nr n op ar res) (hsto : ∀ k l, k < n → l < 8 → op k = nI (20 + l) → k + 1 = n ∧ m < 16 ∧ ∃ c, c < 10 ∧ ar k = nI c ∧ C.1 258 c = rc) (hcd : qx_cd w p q n op ar C S) (hre : qx_re w nr q C S) (hN : qx_N S) (h69 : S.1 291 69 = 0) (hW : qx_W L0 D0 L1 D1 rc m C S) (h4 : C.1 280 4 = (S.2.1 291 70).toInt32) :
    ∃ (b : Bool) (C' S' : qcM), fX4_perform w C.1 C.2.1 C.2.2.1 C.2.2.2 (nI p) = some (b, C') ∧ fX12_works w S.1 S.2.1 S.2.2.1 S.2.2.2 (nI p) = some (b, S') ∧ qx_E L0 D0 L1 D1 rc m 0 n op res C S b C' S' := by
  have hq : q < 12 := hre.2.2.2.2.2.1
  obtain ⟨hn, H, H0, Hn, hH, hat⟩ : n ≤ 200 ∧ ∃ H : Nat → List Nat, H 0 = [] ∧ H n = res ∧ (∀ i, i ≤ n → (H i).length ≤ 24) ∧ ∀ i, i < n → qw_at nr n op ar H i := by
    rcases hwf with ⟨rfl, rfl⟩ | h
    · exact ⟨by omega, fun _ => [], rfl, rfl, fun _ _ => Nat.zero_le 24, fun i hi => by omega⟩
    · exact h
  have a1 : ∀ a k, a ≠ 286 → a ≠ 287 → qc_u (qc_u C.1 287 2 0) 286 5 0 a k = C.1 a k := fun a k h1 h2 => by rw [qc_u_ne _ _ (Or.inl h1), qc_u_ne _ _ (Or.inl h2)]
  have a2 : ∀ a, a ≠ 286 → a ≠ 287 → qc_u (qc_u C.1 287 2 0) 286 5 0 a = C.1 a := fun a h1 h2 => funext fun k => a1 a k h1 h2
  have b1 : ∀ a k, ¬ (a = 291 ∧ (k = 67 ∨ k = 68)) → qc_u (qc_u S.1 291 67 0) 291 68 0 a k = S.1 a k := fun a k h => by rw [qc_u_ne _ _ (by omega), qc_u_ne _ _ (by omega)]
  have b2 : ∀ a, a ≠ 291 → qc_u (qc_u S.1 291 67 0) 291 68 0 a = S.1 a := fun a h => funext fun k => b1 a k (by omega)
  obtain ⟨⟨k1, k2, k3, k4, k5, k6, k7, k8⟩, b0, k9, k10, k11, k12, k13, k14, k15, k16, k17⟩ := id hcd
  obtain ⟨b, C', S', g1, g2, g3, g4, g5, ⟨m', g6, g7⟩, g8, g9, g10⟩ := qx_loop (L0 := L0) (D0 := D0) (L1 := L1) (D1 := D1) (rc := rc) hp hn hH hat (fun k l hk hl ho => (hsto k l hk hl ho).1) qcF 0 0 m (qc_u (qc_u C.1 287 2 0) 286 5 0, C.2.1, C.2.2.1, C.2.2.2) (qc_u (qc_u S.1 291 67 0) 291 68 0, S.2.1, S.2.2.1, S.2.2.2) (qx_F200 hn) (Nat.le_refl _) (Nat.zero_le _)
    (qx_cd_co hcd (fun a k ha => a1 a k (by omega) (by omega)) rfl (fun a k x y => b1 a k (by omega)))
    (qx_re_co hre (fun a ha => rfl) rfl (by show qc_u (qc_u C.1 287 2 0) 286 5 0 286 4 = _; rw [qc_u_ne _ _ (Or.inr (by decide)), qc_u_ne _ _ (Or.inl (by decide))]) (b1 291 71 (by omega)) (b1 291 72 (by omega)) rfl)
    hN ((b1 291 69 (by omega)).trans h69)
    (qx_W_co hW (a2 258 (by decide) (by decide)) (a2 259 (by decide) (by decide)) (a2 260 (by decide) (by decide)) rfl rfl (b2 292 (by decide)) (b2 293 (by decide)) (b2 294 (by decide)) rfl rfl (b2 330 (by decide)) rfl rfl (b1 291 73 (by omega)))
    (fun _ k l hk hl ho => by
      obtain ⟨_, z1, c, z2, z3, z4⟩ := hsto k l hk hl ho
      exact ⟨z1, c, z2, z3, (a1 258 c (by decide) (by decide)).trans z4⟩)
    (by
      rw [H0]
      refine ⟨?_, ?_, trivial⟩
      · show qc_u (qc_u C.1 287 2 0) 286 5 0 287 2 = _
        rw [qc_u_ne _ _ (Or.inl (by decide)), qc_u_at]
        rfl
      · show qc_u (qc_u S.1 291 67 0) 291 68 0 291 67 = _
        rw [qc_u_ne _ _ (Or.inr (by decide)), qc_u_at]
        rfl)
    (qc_u_at (qc_u C.1 287 2 0) 286 5 _) (qc_u_at (qc_u S.1 291 67 0) 291 68 _) ((a1 280 4 (by decide) (by decide)).trans h4)
  rw [Hn] at g9
  refine ⟨b, C', S', ?_, ?_, ?_, ?_, g5, ⟨m', g6, g7⟩, g8, fun hb => ?_, g10⟩
  · unfold fX4_perform fX6_empty
    rw [qc_bds, k1, qc_gdt, fx_size k1 k6 k8 hp (b := b0) (n := n) ((a1 _ _ (by omega) (by omega)).trans k14) ((a1 _ _ (by omega) (by omega)).trans k15), qc_bds]
    exact g1
  · unfold fX12_works
    rw [hre.2.2.2.2.2.2.1, show (3 : Int32) = nI 3 by decide, show (600 : Int32) = nI 600 by decide, show (200 : Int32) = nI 200 by decide, qi_mul, qi_mul, qi_mul, nI_add, nI_add, qi_inbN (by omega) (by decide), qc_gdt, nI_clamp (by omega), k17]
    exact g2
  · have hx : qx_fc C (qc_u (qc_u C.1 287 2 0) 286 5 0, C.2.1, C.2.2.1, C.2.2.2) := ⟨fun a k x y z => (qc_u_ne _ _ (by omega)).trans (qc_u_ne _ _ (by omega)), fun a x y => rfl, fun a x y => rfl, rfl⟩
    exact qx_fc_tr hx g3
  · have hx : qx_fs S (qc_u (qc_u S.1 291 67 0) 291 68 0, S.2.1, S.2.2.1, S.2.2.2) := ⟨fun a k x y => b1 a k (by omega), fun a k x y z v => rfl, fun a x y z => rfl, rfl⟩
    exact qx_fs_tr hx g4
  · obtain ⟨x1, ⟨x2, x3, x4, x5⟩, ⟨x6, x7⟩, x8⟩ := g9 hb
    exact ⟨x1, ⟨x2.trans (a1 280 1 (by decide) (by decide)), x3.trans (a1 280 2 (by decide) (by decide)), x4.trans (a1 280 3 (by decide) (by decide)), x5.trans (a1 280 5 (by decide) (by decide))⟩, ⟨x6.trans (b1 291 79 (by omega)), x7.trans (b1 291 80 (by omega))⟩, x8⟩
end
