/-! one part of both, also an empty one -/
def qx_F (L0 : Nat → Int64) (D0 : Nat → UInt64) (L1 : Nat → Int64) (D1 : Nat → UInt64) (rc : Int32) (m' : Nat) (C S : qcM) (b : Bool) (C' S' : qcM) : Prop :=
  qx_fc C C' ∧ qx_fs S S' ∧ qx_N S' ∧ qx_W L0 D0 L1 D1 rc m' C' S' ∧ C'.1 280 4 = (S'.2.1 291 70).toInt32 ∧
  (b = true → S'.1 291 69 = 0 ∧ (C'.1 280 1 = C.1 280 1 ∧ C'.1 280 2 = C.1 280 2 ∧ C'.1 280 3 = C.1 280 3 ∧ C'.1 280 5 = C.1 280 5) ∧ (S'.1 291 79 = S.1 291 79 ∧ S'.1 291 80 = S.1 291 80)) ∧
  (b = false → C'.1 280 1 = S'.1 291 69 ∧ C'.1 280 2 = S'.1 291 79 ∧ C'.1 280 3 = S'.1 291 80 ∧ C'.1 280 5 = 0)
section
variable {w : qcW} {L0 : Nat → Int64} {D0 : Nat → UInt64} {L1 : Nat → Int64} {D1 : Nat → UInt64} {rc : Int32} {nr p q n m m' m'' : Nat} {op ar : Nat → Int32} {C S C' S' C'' S'' : qcM} {b : Bool}
theorem qx_F_tr (h : qx_F L0 D0 L1 D1 rc m' C S true C' S') (g : qx_F L0 D0 L1 D1 rc m'' C' S' b C'' S'') : qx_F L0 D0 L1 D1 rc m'' C S b C'' S'' := by
  obtain ⟨h1, h2, h3, h4, h5, h6, h7⟩ := h
  obtain ⟨g1, g2, g3, g4, g5, g6, g7⟩ := g
  obtain ⟨k1, ⟨k2, k3, k4, k5⟩, k6, k7⟩ := h6 rfl
  refine ⟨qx_fc_tr h1 g1, qx_fs_tr h2 g2, g3, g4, g5, fun hb => ?_, g7⟩
  obtain ⟨x1, ⟨x2, x3, x4, x5⟩, x6, x7⟩ := g6 hb
  exact ⟨x1, ⟨x2.trans k2, x3.trans k3, x4.trans k4, x5.trans k5⟩, x6.trans k6, x7.trans k7⟩
/-- the height of the class's pile is of no weight -/
theorem qx_F_h (h : qx_F L0 D0 L1 D1 rc m' C S b C' S') (v : Int32) : qx_F L0 D0 L1 D1 rc m' C S b (qc_u C'.1 287 2 v, C'.2.1, C'.2.2.1, C'.2.2.2) S' := by
  obtain ⟨h1, h2, h3, h4, h5, h6, h7⟩ := h
  have u1 : ∀ a k, a ≠ 287 → qc_u C'.1 287 2 v a k = C'.1 a k := fun a k ha => qc_u_ne _ _ (Or.inl ha)
  have u3 : ∀ k, k ≠ 2 → qc_u C'.1 287 2 v 287 k = C'.1 287 k := fun k hk => qc_u_ne _ _ (Or.inr hk)
  have u2 : ∀ a, a ≠ 287 → qc_u C'.1 287 2 v a = C'.1 a := fun a ha => qc_u_off _ _ ha
  refine ⟨⟨fun a k x y z => ?_, h1.2.1, h1.2.2.1, h1.2.2.2⟩, h2, h3, qx_W_co h4 (u2 258 (by decide)) (u2 259 (by decide)) (u2 260 (by decide)) rfl rfl rfl rfl rfl rfl rfl rfl rfl rfl rfl, (u1 280 4 (by decide)).trans h5, fun hb => ?_, fun hb => ?_⟩
  · by_cases ha : a = 287
    · subst ha
      exact (u3 k (by omega)).trans (h1.1 287 k x y z)
    · exact (u1 a k ha).trans (h1.1 a k x y z)
  · obtain ⟨x1, ⟨x2, x3, x4, x5⟩, x6, x7⟩ := h6 hb
    exact ⟨x1, ⟨(u1 280 1 (by decide)).trans x2, (u1 280 2 (by decide)).trans x3, (u1 280 3 (by decide)).trans x4, (u1 280 5 (by decide)).trans x5⟩, x6, x7⟩
  · obtain ⟨x1, x2, x3, x4⟩ := h7 hb
    exact ⟨(u1 280 1 (by decide)).trans x1, (u1 280 2 (by decide)).trans x2, (u1 280 3 (by decide)).trans x3, (u1 280 5 (by decide)).trans x4⟩
theorem qx_part {res : List Nat} (hp : p < 3) (hwf : n = 0 ∧ res = [] ∨ 0 < n ∧ qw_wf nr n op ar res) (hsto : ∀ k l, k < n → l < 8 → op k = nI (20 + l) → k + 1 = n ∧ m < 16 ∧ ∃ c, c < 10 ∧ ar k = nI c ∧ C.1 258 c = rc) (hcd : qx_cd w p q n op ar C S) (hre : qx_re w nr q C S) (hN : qx_N S) (h69 : S.1 291 69 = 0) (hW : qx_W L0 D0 L1 D1 rc m C S) (h4 : C.1 280 4 = (S.2.1 291 70).toInt32) :
    ∃ (b : Bool) (C' S' : qcM) (m' : Nat), fX4_perform w C.1 C.2.1 C.2.2.1 C.2.2.2 (nI p) = some (b, C') ∧ qx_F L0 D0 L1 D1 rc m' C S b C' S' ∧ (m' = m ∨ (m' = m + 1 ∧ ∃ k l, k < n ∧ l < 8 ∧ op k = nI (20 + l))) ∧ (n = 0 → S' = S ∧ b = true) ∧ (n ≠ 0 → fX12_works w S.1 S.2.1 S.2.2.1 S.2.2.2 (nI p) = some (b, S')) ∧
      (b = true → C'.1 287 2 = nI res.length ∧ ∀ k, res = [k] → qp_V k (C'.2.1 288 0) (C'.2.2.1 289 0) (S'.2.1 328 0) (S'.2.2.1 329 0)) := by
  rcases hwf with ⟨rfl, rfl⟩ | ⟨hn, hwf⟩
  · obtain ⟨b, C', S', e1, e2, g1, g2, g3, ⟨m', g4, g5⟩, g6, g7, g8⟩ := qx_perform (L0 := L0) (D0 := D0) (L1 := L1) (D1 := D1) (rc := rc) hp (Or.inl ⟨rfl, rfl⟩) hsto hcd hre hN h69 hW h4
    obtain ⟨⟨k1, k2, k3, k4, k5, k6, k7, k8⟩, b0, k9, k10, k11, k12, k13, k14, k15, k16, k17⟩ := id hcd
    have a1 : ∀ a k, a ≠ 286 → a ≠ 287 → qc_u (qc_u C.1 287 2 0) 286 5 0 a k = C.1 a k := fun a k h1 h2 => by rw [qc_u_ne _ _ (Or.inl h1), qc_u_ne _ _ (Or.inl h2)]
    have a2 : ∀ a, a ≠ 286 → a ≠ 287 → qc_u (qc_u C.1 287 2 0) 286 5 0 a = C.1 a := fun a h1 h2 => funext fun k => a1 a k h1 h2
    have eX : fX4_perform w C.1 C.2.1 C.2.2.1 C.2.2.2 (nI p) = some (true, qc_u (qc_u C.1 287 2 0) 286 5 0, C.2.1, C.2.2.1, C.2.2.2) := by
      unfold fX4_perform fX6_empty
      rw [qc_bds, k1, qc_gdt, fx_size k1 k6 k8 hp (b := b0) (n := 0) ((a1 _ _ (by omega) (by omega)).trans k14) ((a1 _ _ (by omega) (by omega)).trans k15), qc_bds]
      obtain ⟨N, hN2⟩ : ∃ N, qcF = N + 1 := ⟨qcF - 1, by have := qy_F; omega⟩
      rw [hN2, fX4_perform_l23_s]
      unfold fX4_perform_b23
      rw [if_pos (show nI 0 ≤ (0 : Int32) by decide)]
    refine ⟨true, _, S, m, eX, ⟨⟨fun a k x y z => ?_, fun _ _ _ => rfl, fun _ _ _ => rfl, rfl⟩, ⟨fun _ _ _ _ => rfl, fun _ _ _ _ _ _ => rfl, fun _ _ _ _ => rfl, rfl⟩, hN, ?_, ?_, fun _ => ⟨h69, ⟨?_, ?_, ?_, ?_⟩, rfl, rfl⟩, fun z => by cases z⟩, Or.inl rfl, fun _ => ⟨rfl, rfl⟩, fun z => absurd rfl z, fun _ => ⟨?_, fun k z => by cases z⟩⟩
    · exact (qc_u_ne _ _ (by omega)).trans (qc_u_ne _ _ (by omega))
    · exact qx_W_co hW (a2 258 (by decide) (by decide)) (a2 259 (by decide) (by decide)) (a2 260 (by decide) (by decide)) rfl rfl rfl rfl rfl rfl rfl rfl rfl rfl rfl
    · exact (a1 280 4 (by decide) (by decide)).trans h4
    · exact a1 280 1 (by decide) (by decide)
    · exact a1 280 2 (by decide) (by decide)
    · exact a1 280 3 (by decide) (by decide)
    · exact a1 280 5 (by decide) (by decide)
    · show qc_u (qc_u C.1 287 2 0) 286 5 0 287 2 = _
      rw [qc_u_ne _ _ (Or.inl (by decide)), qc_u_at]
      rfl
  · obtain ⟨b, C', S', e1, e2, g1, g2, g3, ⟨m', g4, g5⟩, g6, g7, g8⟩ := qx_perform (L0 := L0) (D0 := D0) (L1 := L1) (D1 := D1) (rc := rc) hp (Or.inr hwf) hsto hcd hre hN h69 hW h4
    refine ⟨b, C', S', m', e1, ⟨g1, g2, g3, g4, g6, fun hb => ⟨(g7 hb).1, (g7 hb).2.1, (g7 hb).2.2.1⟩, g8⟩, ?_, fun z => by omega, fun _ => e2, fun hb => ?_⟩
    · rcases g5 with z | ⟨z, _, z2⟩
      · exact Or.inl z
      · exact Or.inr ⟨z, z2⟩
    · obtain ⟨x1, x2, x3⟩ := (g7 hb).2.2.2
      refine ⟨x1, fun k hk => ?_⟩
      subst hk
      exact x3.1
end
section
variable {w : qcW} {I : qTI} {L : qTL} {D : qTD} {R : qTR}
theorem cx_take0 (h : I 287 2 = nI 0) : fX6_take w I L D R = some (0, I, L, D, R) := by
  unfold fX6_take
  rw [h, if_pos (show nI 0 ≤ 0 by decide)]
theorem cx_take1 (h : I 287 2 = nI 1) : fX6_take w I L D R = some (L 288 0, qc_u I 287 2 (nI 0), L, D, R) := by
  have z := cx_take (w := w) (I := I) (L := L) (D := D) (R := R) (p := L 288) (n := 0) (by decide)
  rw [qx_self h, qi_rr_0] at z
  exact z
theorem cx_takeR1 (h : I 287 2 = nI 1) : fX6_takeReal w I L D R = some (D 289 0, qc_u I 287 2 (nI 0), L, D, R) := by
  have z := cx_takeR (w := w) (I := I) (L := L) (D := D) (R := R) (x := D 289) (n := 0) (by decide)
  rw [qx_self h, qi_rr_0] at z
  exact z
end
